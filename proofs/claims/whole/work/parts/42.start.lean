/-! THE CLAIM OUT OF ONE WALK OF THE LAW'S BODY. Your part is whole_start (and what it stands on); all else here is the same for every law, but numbers. -/
def R_law : String := "SpeciesRoundsLaw"
def lw_P (b : Addr) (xs : List Int32) (args : Array Value) (s : State) : Prop := args = #[.ref b] ∧ s.IntsAt b xs ∧ xs.length ≤ 3073 ∧ (Jvm.Cond.and given_1 narrow_1).before args s = true
def lw_Q (_ : Array Value) (s : State) (o : Outcome) (t : State) : Prop := o = .returned (some (.int 1)) ∧ Framed s o t [] 600000 7302250
def lw_Z (below : List Frame) (a : Array Value) (s : State) : State → Prop := fun t => ∃ o, t.status = .running ∧ Ended t below o ∧ lw_Q a s o t
/-- the law's own end, with 1 on the stack, nothing written that was there before, its room as the claim has it -/
theorem lw_ret {p : Program} {l : Launch} {e : Env} {s : State} {m : MethodId} {below : List Frame} {meth : Method} {c : Code} {b : Nat} (hx : p.tables.exec = Jvm.exec) (hb : c.code = code) (hr : meth.sig.returnType = ret) (hlocks : meth.locks = false) {pc : Nat} {H : Heap} {ls : Array Slot} (hdg : decode code pc = .ok (.ireturn, 1)) : W p l e room_1 s m #[Value.ref b] below meth c H [] 600000 7302250 (lw_Z below #[Value.ref b] s) (F0 m pc ls [.int 1]) := by
  intro T hT X
  obtain ⟨fs, hret, hrun, hended, hW, hframe⟩ := X.leave (v := some (.int 1)) (hlocks := hlocks) (fun h => by rw [hr] at h; cases h)
  have hmeth' : T.vm.method? m = some meth := X.method'
  refine ⟨T.setFrames fs, ?_, .returned (some (.int 1)), hrun, hended, rfl, ⟨_, rfl⟩, hW, hframe⟩
  jvm_step X.here [X.here.top, hx, hb, hdg, hmeth', hr, ret, narrow_b1]
  (try refine ⟨rfl, ?_⟩); (try refine ⟨rfl, ?_⟩)
  first | (intro acts; rw [hret _ acts rfl rfl rfl]) | rw [hret _ _ rfl rfl rfl]
  exact Steps.refl _
/-- what holds at the law's entry: the machine, the code, the tables' words (any of lw_tbl by 'hts w (by decide +kernel)'), the script of L ints xs at the cell b, what the Statement gives of the start (any of its parts by flat_of_before) -/
def lw_At (p : Program) (s : State) (m : MethodId) (meth : Method) (c : Code) (b L : Nat) (xs : Nat → Int32) : Prop :=
  p.tables.exec = Jvm.exec ∧ c.code = code ∧ meth.sig.returnType = ret ∧ c.maxLocals = 4 ∧ s.vm.findClass R_law = some m.cls ∧ (∀ w ∈ lw_tbl, w.before #[Value.ref b] s = true) ∧ va_X b L xs s s.heap ∧ b < s.heap.size ∧ meth.locks = false ∧ (Jvm.Cond.and given_1 narrow_1).before #[Value.ref b] s = true
theorem am_cls_known {s : State} {args : Array Value} (hG : ∀ w ∈ am_G, w.before args s = true) : ∃ D : va_G, ∀ (k : Nat) (q : vw_C), am_cl[k]? = some q → u_Kn s q.1 q.2.1 q.2.2 (D.1 k) (D.2 k) := by
  have key : ∀ k : Nat, ∃ pq : ClassId × (Nat → Nat), ∀ q : vw_C, am_cl[k]? = some q → u_Kn s q.1 q.2.1 q.2.2 pq.1 pq.2 := by
    intro k
    have one : ∀ (C : String) (T : u_T) (N : Nat), am_cl[k]? = some (C, T, N) → (∀ w ∈ u_ws C T N, w ∈ am_G) → Cond.instantiable C N ∈ am_G → ∃ pq : ClassId × (Nat → Nat), ∀ q : vw_C, am_cl[k]? = some q → u_Kn s q.1 q.2.1 q.2.2 pq.1 pq.2 := by
      intro C T N hk hin hins
      obtain ⟨c0, iS, h⟩ := u_known (C := C) (T := T) (N := N) (n := N) hG hin (hG _ hins)
      refine ⟨(c0, iS), fun q hq => ?_⟩
      rw [hk] at hq
      cases hq
      exact h
    match k with
    | 0 => exact one _ _ _ rfl am_in0 am_inst0
    | 1 => exact one _ _ _ rfl am_in1 am_inst1
    | 2 => exact one _ _ _ rfl am_in2 am_inst2
    | 3 => exact one _ _ _ rfl am_in3 am_inst3
    | 4 => exact one _ _ _ rfl am_in4 am_inst4
    | 5 => exact one _ _ _ rfl am_in5 am_inst5
    | 6 => exact one _ _ _ rfl am_in6 am_inst6
    | 7 => exact one _ _ _ rfl am_in7 am_inst7
    | 8 => exact one _ _ _ rfl am_in8 am_inst8
    | 9 => exact one _ _ _ rfl am_in9 am_inst9
    | 10 => exact one _ _ _ rfl am_in10 am_inst10
    | 11 => exact one _ _ _ rfl am_in11 am_inst11
    | k + 12 => exact ⟨(0, fun _ => 0), fun q hq => by simp [am_cl] at hq⟩
  exact ⟨(fun k => (Classical.choose (key k)).1, fun k => (Classical.choose (key k)).2), fun k q hq => Classical.choose_spec (key k) q hq⟩
theorem am_arr_prim {s : State} {args : Array Value} {ty : FieldType} (h : (Cond.arrayClass ty).before args s = true) (hp : ∀ C, ty ≠ .object C) : ∃ cA : ClassId, ArrOfT s cA ty ∧ va_RA s cA ty := by
  obtain ⟨cA, kA, comp, h1, h2, h3⟩ := Cond.arrayClass_spec h
  refine ⟨cA, fun n z => ⟨fun k h => (by cases h), kA, h2, comp, h3⟩, ?_⟩
  cases ty with
  | object C => exact absurd rfl (hp C)
  | _ => exact h1
theorem am_arr_known {s : State} {args : Array Value} (hts : ∀ w ∈ lw_tbl, w.before args s = true) : ∃ cA : FieldType → ClassId, ∀ (k : Nat) (q : ClassId × FieldType), (am_tys cA)[k]? = some q → ArrOfT s q.1 q.2 ∧ va_RA s q.1 q.2 := by
  have hin : ∀ w ∈ tables_1, w.before args s = true := fun w hw => hts w (List.mem_append_right _ hw)
  obtain ⟨c0, h0⟩ := am_arr_prim (hin (.arrayClass .int) (by decide +kernel)) (fun C h => by cases h)
  obtain ⟨c1, h1⟩ := am_arr_prim (hin (.arrayClass .long) (by decide +kernel)) (fun C h => by cases h)
  obtain ⟨c2, h2⟩ := am_arr_prim (hin (.arrayClass .char) (by decide +kernel)) (fun C h => by cases h)
  obtain ⟨cm3, c3, k3, g1, g2, g3, g4, g5⟩ := arrayOverA_spec (hin (.arrayOver (.array .int)) (by decide +kernel))
  obtain ⟨cm4, c4, k4, f1, f2, f3, f4, f5⟩ := Cond.arrayOver_spec (hin (.arrayOver (.object "SpeciesRounds$Rule")) (by decide +kernel))
  refine ⟨fun t => match t with | .int => c0 | .long => c1 | .char => c2 | .array _ => c3 | _ => c4, fun k q hq => ?_⟩
  match k, hq with
  | 0, hq => cases hq; exact h0
  | 1, hq => cases hq; exact h1
  | 2, hq => cases hq; exact h2
  | 3, hq => cases hq; exact ⟨fun n z => ⟨fun k h => (by cases h), k3, g3, cm3, g4⟩, g5⟩
  | 4, hq => cases hq; exact ⟨fun n z => ⟨fun k h => (by cases h), k4, f3, cm4, f4⟩, k4, cm4, f3, f4, f1, f5⟩
  | k + 5, hq => simp [am_tys, am_tyl] at hq
theorem am_flat {c : Cond} {A : Array Value} {s : State} (h : (Jvm.Cond.and given_1 narrow_1).before A s = true) (hc : c ∈ flatC (Jvm.Cond.and given_1 narrow_1)) : c.before A s = true := flat_of_before _ h c hc
theorem am_len_lt {A : Array Value} {s : State} {t : Term} {N : Nat} {b : Nat} (hN : N < 100) (ht : t.eval A s none [] s = some (.ref b)) (h : (Cond.eq (.length t) (.int (Int32.ofNat N))).before A s = true) : ∀ cell : Cell, s.heap[b]? = some cell → cell.slots.size = N := by
  intro cell hc
  have hv := va_eqt h
  obtain ⟨b', cell', ht', hat, -⟩ := Term.length_spec hv
  cases ht.symm.trans ht'
  obtain ⟨hc', -⟩ := State.arrayAt?_spec hat
  cases hc.symm.trans hc'
  simp only [Term.eval, ht, hat, Option.bind_eq_bind, Option.bind_some] at hv
  split at hv
  · next hlt =>
    have e := congrArg Int32.toNatClampNeg (Value.int.inj (Option.some.inj hv))
    have e1 : cell.slots.size.toInt32.toNatClampNeg = cell.slots.size := nI_clamp hlt
    have e2 : (Int32.ofNat N).toNatClampNeg = N := nI_clamp (Nat.lt_trans hN (by decide))
    rw [e1, e2] at e
    exact e
  · cases hv
abbrev am_stw (i : Nat) : Nat := [69, 81, 86].getD i 0
abbrev am_stm (i : Nat) : Term := .string "SpeciesRounds$Reader" (am_stw i)
abbrev am_stv (i : Nat) : Term := .field (am_stm i) "java/lang/String" "value" "[B"
theorem am_fl1 : ∀ i : Fin 3, Cond.exactly (am_stm i.val) "java/lang/String" ∈ flatC (Jvm.Cond.and given_1 narrow_1) := by decide +kernel
theorem am_fl2 : ∀ i : Fin 3, Cond.eq (.field (am_stm i.val) "java/lang/String" "coder" "B") (.int 0) ∈ flatC (Jvm.Cond.and given_1 narrow_1) := by decide +kernel
theorem am_fl3 : ∀ i : Fin 3, Cond.arrayOf (am_stv i.val) .byte ∈ flatC (Jvm.Cond.and given_1 narrow_1) := by decide +kernel
theorem am_fl4 : ∀ i : Fin 3, Cond.eq (.length (am_stv i.val)) (.int (Int32.ofNat (am_stl.getD i.val 0))) ∈ flatC (Jvm.Cond.and given_1 narrow_1) := by decide +kernel
theorem am_fl5 : ∀ (i : Fin 3) (j : Fin 4), j.val < am_stl.getD i.val 0 → Cond.eq (.elem (am_stv i.val) (.int (Int32.ofNat j.val))) (.int ((am_stb.getD i.val []).getD j.val 0)) ∈ flatC (Jvm.Cond.and given_1 narrow_1) := by decide +kernel
theorem am_fl6 : ∀ i j : Fin 3, i.val ≠ j.val → Cond.not (Cond.eq (am_stm i.val) (am_stm j.val)) ∈ flatC (Jvm.Cond.and given_1 narrow_1) ∨ Cond.not (Cond.eq (am_stm j.val) (am_stm i.val)) ∈ flatC (Jvm.Cond.and given_1 narrow_1) := by decide +kernel
theorem am_fl7 : ∀ i : Fin 3, am_stl.getD i.val 0 ≤ 4 := by decide +kernel
def am_Sf (b : Nat) (adK adV : Nat → Nat) : Nat → Nat
  | 0 => b
  | 1 => adK 0
  | 2 => adK 1
  | 3 => adK 2
  | n + 4 => adV n
theorem am_Sf1 {b : Nat} {adK adV : Nat → Nat} {i : Nat} (hi : i < 3) : am_Sf b adK adV (i + 1) = adK i := by
  match i, hi with
  | 0, _ => rfl
  | 1, _ => rfl
  | 2, _ => rfl
theorem am_strs {A : Array Value} {s : State} (b : Nat) (hgv : (Jvm.Cond.and given_1 narrow_1).before A s = true) (hin : ∀ w ∈ tables_1, w.before A s = true) : ∃ S : Nat → Nat, S 0 = b ∧ am_St S s.heap s := by
  have hA : ∀ a : Nat, a < s.heap.size → ¬ s.heap.size ≤ a := fun a h => Nat.not_le.mpr h
  have hex : ∀ i : Nat, i < 3 → (Cond.exactly (am_stm i) "java/lang/String").before A s = true := fun i hi => am_flat hgv (am_fl1 ⟨i, hi⟩)
  have hco : ∀ i : Nat, i < 3 → (Cond.eq (.field (am_stm i) "java/lang/String" "coder" "B") (.int 0)).before A s = true := fun i hi => am_flat hgv (am_fl2 ⟨i, hi⟩)
  have hle : ∀ i : Nat, i < 3 → (Cond.eq (.length (am_stv i)) (.int (Int32.ofNat (am_stl.getD i 0)))).before A s = true := fun i hi => am_flat hgv (am_fl4 ⟨i, hi⟩)
  obtain ⟨adK, adV, hK, hev⟩ := vk_Sof (args := A) (s := s) (N := 3) (tm := am_stm) (len := am_stl) (byt := am_stb) (A := fun q => s.heap.size ≤ q) (fun i hi => Nat.lt_of_le_of_lt (am_fl7 ⟨i, hi⟩) (by decide)) hex hco (fun i hi => am_flat hgv (am_fl3 ⟨i, hi⟩)) hle (fun i hi j hj => am_flat hgv (am_fl5 ⟨i, hi⟩ ⟨j, Nat.lt_of_lt_of_le hj (am_fl7 ⟨i, hi⟩)⟩ hj)) (fun i j hi hj hne => (am_fl6 ⟨i, hi⟩ ⟨j, hj⟩ hne).elim (fun q => Or.inl (am_flat hgv q)) (fun q => Or.inr (am_flat hgv q))) hA
  refine ⟨am_Sf b adK adV, rfl, vk_R.of (hin _ (by decide +kernel)) (hev 0 (by decide)), vk_R.of (hin _ (by decide +kernel)) (hev 1 (by decide)), vk_R.of (hin _ (by decide +kernel)) (hev 2 (by decide)), va_Zof (hin _ (by decide +kernel)) (hin _ (by decide +kernel)) (va_eqi (am_flat hgv (by decide +kernel))) hA, ⟨fun i hi => ?_, fun i j hi hj e => ?_⟩, fun i hi cell hc => ?_, fun cS hcS => ⟨fun n d hm c hc => ?_, ?_⟩⟩
  · show va_O _ (am_Sf b adK adV (i + 1)) _ _ _ ∧ va_OF _ _ _ _ (am_Sf b adK adV (i + 1)) _ _ _ ∧ va_OF _ _ _ _ (am_Sf b adK adV (i + 1)) _ _ _ ∧ _
    rw [am_Sf1 hi]
    exact hK.1 i hi
  · rw [show (fun i => am_Sf b adK adV (i + 1)) i = adK i from am_Sf1 hi, show (fun i => am_Sf b adK adV (i + 1)) j = adK j from am_Sf1 hj] at e
    exact hK.2 i j hi hj e
  · obtain ⟨t, cell', ht, hat, -⟩ := Term.length_spec (va_eqt (hle i hi))
    obtain ⟨cg, kg, gi, g, cell2, g1, g2, g3, g4, g5, -⟩ := (hK.1 i hi).2.2.1
    obtain ⟨-, cell3, f2, -, -, -, f6⟩ := Term.field_spec g1 (hev i hi) ht
    cases g3.symm.trans f2
    cases g5.symm.trans f6
    exact am_len_lt (Nat.lt_of_le_of_lt (am_fl7 ⟨i, hi⟩) (by decide)) ht (hle i hi) cell hc
  · obtain ⟨k, i, f, hf⟩ := am_fc.has hc
    obtain ⟨cell, o1, o2, o3, -⟩ := (hK.1 0 (by decide)).1
    cases hcS.symm.trans o3
    rcases List.mem_cons.mp hm with q | q
    · cases q
      obtain ⟨-, cell3, f2, -, -, f5, -⟩ := Term.field_spec hf (hev 0 (by decide)) (va_eqt (hco 0 (by decide)))
      cases o1.symm.trans f2
      exact f5
    · cases List.mem_singleton.mp q
      obtain ⟨t, cell', ht, hat, -⟩ := Term.length_spec (va_eqt (hle 0 (by decide)))
      obtain ⟨-, cell3, f2, -, -, f5, -⟩ := Term.field_spec hf (hev 0 (by decide)) ht
      cases o1.symm.trans f2
      exact f5
  · obtain ⟨a, c, cell, k, q1, q2, q3, q4, q5, q6, q7⟩ := Cond.exactly_spec (args := A) (first := s) (o := none) (s := s) (idx := []) (hex 0 (by decide))
    cases hcS.symm.trans q2
    refine ⟨k, q4, fun hk i hi cell' hc' => ?_⟩
    obtain ⟨a, c, cell, k', q1, q2', q3, q4', q5, q6, q7⟩ := Cond.exactly_spec (args := A) (first := s) (o := none) (s := s) (idx := []) (hex i hi)
    cases q2.symm.trans q2'
    cases q4.symm.trans q4'
    cases q1.symm.trans (hev i hi)
    rw [am_Sf1 hi] at hc'
    cases q3.symm.trans hc'
    exact q7 hk
theorem am_start {p : Program} {e : Env} {s : State} {m : MethodId} {below : List Frame} {meth : Method} {c : Code} (l : Launch) {b L : Nat} {xs : Nat → Int32} (d : Nat) (hd : d ≤ 1000) (C0 : lw_At p s m meth c b L xs) (hgo : am_Go (am_KA (L, xs) d) (am_fetch (cd_law (L, xs))) (fun v _ => v = some (.int 1)) 0 [some (.float 0), none, none, none] [] [] 0 0) : W p l e room_1 s m #[Value.ref b] below meth c s.heap [] 0 0 (lw_Z below #[Value.ref b] s) (entryFrame m ([Value.ref b] : List Value).toArray 4) := by
  obtain ⟨hx, hb, hr, hml, hown, hts, hX, hbl, hlocks, hgv⟩ := C0
  have hG : ∀ w ∈ am_G, w.before #[Value.ref b] s = true := fun w hw => hts w (List.mem_filter.mp hw).1
  obtain ⟨D, hD⟩ := am_cls_known hG
  obtain ⟨cA, hcA⟩ := am_arr_known hts
  have hin : ∀ w ∈ tables_1, w.before #[Value.ref b] s = true := fun w hw => hts w (List.mem_append_right _ hw)
  obtain ⟨S, hS0, hSt⟩ := am_strs b hgv hin
  have hE : am_E (L, xs) D cA S s.heap s := by
    refine ⟨⟨hD, hcA⟩, fun w hw hn => ?_, va_AO.of (hin _ (by decide +kernel)), ?_, ⟨by rw [hS0]; exact hbl, by rw [hS0]; exact hX⟩, hSt⟩
    · unfold am_isN at hn
      split at hn
      · exact va_Nw.of rfl (hin _ hw)
      · exact va_Nw.of rfl (hin _ hw)
      · cases hn
    · exact hin (.arrayOver (.array .int)) (by decide +kernel)
  rw [lg_entry_eq]
  have hlv := am_lv_ini S s.heap.size 4 [.float 0] (by decide)
  have e0 : ([Value.float 0].map (am_cv S s.heap.size)) = [Value.ref b] := by
    show [Value.ref (S 0)] = _
    rw [hS0]
  rw [e0] at hlv
  generalize (lg_sl [Value.ref b] ++ List.replicate (4 - (lg_sl [Value.ref b]).length) Slot.unset).toArray = lsA at hlv ⊢
  have hR : am_R D am_cl cA S s.heap [] s.heap := ⟨rfl, fun _ _ => rfl, fun k q h => by simp [am_conc] at h⟩
  refine hgo (am_W p l e room_1 s m #[Value.ref b] below meth c 4 D cA S s.heap (lw_Z below #[Value.ref b] s)) (fun pc ls st h k z hT => ?_) s.heap [] lsA hR va_S.rf hlv (Nat.zero_le _) (Nat.zero_le _)
  refine am_sd_fetch cs_law pc p l e room_1 s m #[Value.ref b] below meth c D cA S s.heap _ (am_KA (L, xs) d) (fun v _ => v = some (.int 1)) _ ⟨hx, hb, hml, hown, hG, hE, rfl, ⟨Nat.le_refl _, fun _ _ => rfl⟩, by decide, by decide, rfl, rfl⟩ ?_ ?_ (fun _ _ _ _ _ _ q => q) ls st h k z hT
  · intro y' As' h' Q' hc'
    refine ⟨am_rm (am_mt y') d, am_KA_met (L, xs) l D cA S s.heap d y' As' h' Q' hc', rfl, rfl, ?_, ?_⟩
    · show d + 5 + 1 ≤ 2048
      omega
    · have hy' : y' < 132 := by
        cases d with
        | zero => exact hc'.elim
        | succ d => exact hc'.1
      have := (okA_131 (L, xs) y' hy').2.1
      show 8 + ((am_mt y').2.2.1 + 11) + 60 * (d + 4) ≤ 84000
      omega
  · intro pc lsA h H locs k z hR hS hk hz
    refine ⟨fun ty x hret hn hq hdg => ?_, fun x hret => (by cases hret), fun hret => (by cases hret)⟩
    cases hq
    exact va_forget (fun q hq => hS.2.2 q hq) (W.widen hk hz (lw_ret hx hb hr hlocks hdg))
