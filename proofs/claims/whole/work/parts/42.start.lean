/-! THE CLAIM OUT OF ONE WALK OF THE LAW'S BODY. Your part is whole_start (and what it stands on); all else here is the same for every law, but numbers. -/
def R_law : String := "SpeciesRoundsLaw"
def lw_P (b : Addr) (xs : List Int32) (args : Array Value) (s : State) : Prop := args = #[.ref b] ∧ s.IntsAt b xs ∧ xs.length ≤ 3073 ∧ (Jvm.Cond.and given_1 narrow_1).before args s = true
def lw_Q (_ : Array Value) (s : State) (o : Outcome) (t : State) : Prop := o = .returned (some (.int 1)) ∧ Framed s o t [] 600000 7302250
def lw_Z (below : List Frame) (a : Array Value) (s : State) : State → Prop := fun t => ∃ o, t.status = .running ∧ Ended t below o ∧ lw_Q a s o t
/-- the law's own end, with 1 on the stack, nothing written that was there before, its room as the claim has it -/
theorem lw_ret {p : Program} {l : Launch} {e : Env} {s : State} {m : MethodId} {below : List Frame} {meth : Method} {c : Code} {b : Nat} (hx : p.tables.exec = Jvm.exec) (hb : c.code = code) (hr : meth.sig.returnType = ret) (hlocks : meth.locks = false) {pc : Nat} {H : Heap} {ls : Array Slot} (hdg : decode code pc = .ok (.ireturn, 1)) : W p l e room_1 s m #[Value.ref b] below meth c H [] 600000 7302250 (lw_Z below #[Value.ref b] s) (F0 m pc ls [.int 1]) := by
  intro T hT X
  obtain ⟨fs, hret, hrun, hended, hW, hframe⟩ := X.leave (v := some (.int 1)) (hlocks := hlocks) (fun h => by rw [hr] at h; cases h)
  have hmeth' : T.vm.method? m = some meth := X.method'
  refine ⟨T.setFrames fs, ?_, .returned (some (.int 1)), hrun, hended, rfl, ⟨_, rfl⟩, hW, hframe⟩
  jvm_step X.here [X.here.top, hx, hb, hdg, hmeth', hr, ret, narrow_b1]
  (try refine ⟨rfl, ?_⟩); (try refine ⟨rfl, ?_⟩)
  first | (intro acts; rw [hret _ acts rfl rfl rfl]) | rw [hret _ _ rfl rfl rfl]
  exact Steps.refl _
/-- what holds at the law's entry: the machine, the code, the tables' words (any of lw_tbl by 'hts w (by decide +kernel)'), the script of L ints xs at the cell b, what the Statement gives of the start (any of its parts by flat_of_before) -/
def lw_At (p : Program) (s : State) (m : MethodId) (meth : Method) (c : Code) (b L : Nat) (xs : Nat → Int32) : Prop :=
  p.tables.exec = Jvm.exec ∧ c.code = code ∧ meth.sig.returnType = ret ∧ c.maxLocals = 4 ∧ s.vm.findClass R_law = some m.cls ∧ (∀ w ∈ lw_tbl, w.before #[Value.ref b] s = true) ∧ va_X b L xs s s.heap ∧ b < s.heap.size ∧ meth.locks = false ∧ (Jvm.Cond.and given_1 narrow_1).before #[Value.ref b] s = true
theorem am_cls_known {s : State} {args : Array Value} (hG : ∀ w ∈ am_G, w.before args s = true) : ∃ D : va_G, ∀ (k : Nat) (q : vw_C), am_cl[k]? = some q → u_Kn s q.1 q.2.1 q.2.2 (D.1 k) (D.2 k) := by
  have key : ∀ k : Nat, ∃ pq : ClassId × (Nat → Nat), ∀ q : vw_C, am_cl[k]? = some q → u_Kn s q.1 q.2.1 q.2.2 pq.1 pq.2 := by
    intro k
    have one : ∀ (C : String) (T : u_T) (N : Nat), am_cl[k]? = some (C, T, N) → (∀ w ∈ u_ws C T N, w ∈ am_G) → Cond.instantiable C N ∈ am_G → ∃ pq : ClassId × (Nat → Nat), ∀ q : vw_C, am_cl[k]? = some q → u_Kn s q.1 q.2.1 q.2.2 pq.1 pq.2 := by
      intro C T N hk hin hins
      obtain ⟨c0, iS, h⟩ := u_known (C := C) (T := T) (N := N) (n := N) hG hin (hG _ hins)
      refine ⟨(c0, iS), fun q hq => ?_⟩
      rw [hk] at hq
      cases hq
      exact h
    match k with
    | 0 => exact one _ _ _ rfl am_in0 am_inst0
    | 1 => exact one _ _ _ rfl am_in1 am_inst1
    | 2 => exact one _ _ _ rfl am_in2 am_inst2
    | 3 => exact one _ _ _ rfl am_in3 am_inst3
    | 4 => exact one _ _ _ rfl am_in4 am_inst4
    | 5 => exact one _ _ _ rfl am_in5 am_inst5
    | 6 => exact one _ _ _ rfl am_in6 am_inst6
    | 7 => exact one _ _ _ rfl am_in7 am_inst7
    | 8 => exact one _ _ _ rfl am_in8 am_inst8
    | 9 => exact one _ _ _ rfl am_in9 am_inst9
    | 10 => exact one _ _ _ rfl am_in10 am_inst10
    | 11 => exact one _ _ _ rfl am_in11 am_inst11
    | k + 12 => exact ⟨(0, fun _ => 0), fun q hq => by simp [am_cl] at hq⟩
  exact ⟨(fun k => (Classical.choose (key k)).1, fun k => (Classical.choose (key k)).2), fun k q hq => Classical.choose_spec (key k) q hq⟩
theorem am_arr_prim {s : State} {args : Array Value} {ty : FieldType} (h : (Cond.arrayClass ty).before args s = true) (hp : ∀ C, ty ≠ .object C) : ∃ cA : ClassId, ArrOfT s cA ty ∧ va_RA s cA ty := by
  obtain ⟨cA, kA, comp, h1, h2, h3⟩ := Cond.arrayClass_spec h
  refine ⟨cA, fun n z => ⟨fun k h => (by cases h), kA, h2, comp, h3⟩, ?_⟩
  cases ty with
  | object C => exact absurd rfl (hp C)
  | _ => exact h1
theorem am_arr_known {s : State} {args : Array Value} (hts : ∀ w ∈ lw_tbl, w.before args s = true) : ∃ cA : FieldType → ClassId, ∀ (k : Nat) (q : ClassId × FieldType), (am_tys cA)[k]? = some q → ArrOfT s q.1 q.2 ∧ va_RA s q.1 q.2 := by
  have hin : ∀ w ∈ tables_1, w.before args s = true := fun w hw => hts w (List.mem_append_right _ hw)
  obtain ⟨c0, h0⟩ := am_arr_prim (hin (.arrayClass .int) (by decide +kernel)) (fun C h => by cases h)
  obtain ⟨c1, h1⟩ := am_arr_prim (hin (.arrayClass .long) (by decide +kernel)) (fun C h => by cases h)
  obtain ⟨c2, h2⟩ := am_arr_prim (hin (.arrayClass .char) (by decide +kernel)) (fun C h => by cases h)
  obtain ⟨cm3, c3, k3, g1, g2, g3, g4, g5⟩ := arrayOverA_spec (hin (.arrayOver (.array .int)) (by decide +kernel))
  obtain ⟨cm4, c4, k4, f1, f2, f3, f4, f5⟩ := Cond.arrayOver_spec (hin (.arrayOver (.object "SpeciesRounds$Rule")) (by decide +kernel))
  refine ⟨fun t => match t with | .int => c0 | .long => c1 | .char => c2 | .array _ => c3 | _ => c4, fun k q hq => ?_⟩
  match k, hq with
  | 0, hq => cases hq; exact h0
  | 1, hq => cases hq; exact h1
  | 2, hq => cases hq; exact h2
  | 3, hq => cases hq; exact ⟨fun n z => ⟨fun k h => (by cases h), k3, g3, cm3, g4⟩, g5⟩
  | 4, hq => cases hq; exact ⟨fun n z => ⟨fun k h => (by cases h), k4, f3, cm4, f4⟩, k4, cm4, f3, f4, f1, f5⟩
  | k + 5, hq => simp [am_tys, am_tyl] at hq
theorem am_start {p : Program} {e : Env} {s : State} {m : MethodId} {below : List Frame} {meth : Method} {c : Code} (l : Launch) {b L : Nat} {xs : Nat → Int32} (d : Nat) (hd : d ≤ 1000) (C0 : lw_At p s m meth c b L xs) (hgo : am_Go (am_KA (L, xs) d) (am_fetch (cd_law (L, xs))) (fun v _ => v = some (.int 1)) 0 [some (.float 0), none, none, none] [] [] 0 0) : W p l e room_1 s m #[Value.ref b] below meth c s.heap [] 0 0 (lw_Z below #[Value.ref b] s) (entryFrame m ([Value.ref b] : List Value).toArray 4) := by
  obtain ⟨hx, hb, hr, hml, hown, hts, hX, hbl, hlocks, hgv⟩ := C0
  have hG : ∀ w ∈ am_G, w.before #[Value.ref b] s = true := fun w hw => hts w (List.mem_filter.mp hw).1
  obtain ⟨D, hD⟩ := am_cls_known hG
  obtain ⟨cA, hcA⟩ := am_arr_known hts
  have hin : ∀ w ∈ tables_1, w.before #[Value.ref b] s = true := fun w hw => hts w (List.mem_append_right _ hw)
  have hE : am_E (L, xs) D cA (fun _ => b) s.heap s := by
    refine ⟨⟨hD, hcA⟩, fun w hw hn => ?_, va_AO.of (hin _ (by decide +kernel)), ?_, hbl, hX⟩
    · unfold am_isN at hn
      split at hn
      · exact va_Nw.of rfl (hin _ hw)
      · exact va_Nw.of rfl (hin _ hw)
      · cases hn
    · exact hin (.arrayOver (.array .int)) (by decide +kernel)
  rw [lg_entry_eq]
  have hlv := am_lv_ini (fun _ => b) s.heap.size 4 [.float 0] (by decide)
  have e0 : ([Value.float 0].map (am_cv (fun _ => b) s.heap.size)) = [Value.ref b] := rfl
  rw [e0] at hlv
  generalize (lg_sl [Value.ref b] ++ List.replicate (4 - (lg_sl [Value.ref b]).length) Slot.unset).toArray = lsA at hlv ⊢
  have hR : am_R D am_cl cA (fun _ => b) s.heap [] s.heap := ⟨rfl, fun _ _ => rfl, fun k q h => by simp [am_conc] at h⟩
  refine hgo (am_W p l e room_1 s m #[Value.ref b] below meth c 4 D cA (fun _ => b) s.heap (lw_Z below #[Value.ref b] s)) (fun pc ls st h k z hT => ?_) s.heap [] lsA hR va_S.rf hlv (Nat.zero_le _) (Nat.zero_le _)
  refine am_sd_fetch cs_law pc p l e room_1 s m #[Value.ref b] below meth c D cA (fun _ => b) s.heap _ (am_KA (L, xs) d) (fun v _ => v = some (.int 1)) _ ⟨hx, hb, hml, hown, hG, hE, rfl, ⟨Nat.le_refl _, fun _ _ => rfl⟩, by decide, by decide, rfl, rfl⟩ ?_ ?_ (fun _ _ _ _ _ _ q => q) ls st h k z hT
  · intro y' As' h' Q' hc'
    refine ⟨am_rm (am_mt y') d, am_KA_met (L, xs) l D cA (fun _ => b) s.heap d y' As' h' Q' hc', rfl, rfl, ?_, ?_⟩
    · show d + 1 + 1 ≤ 2048
      omega
    · have hy' : y' < 132 := by
        cases d with
        | zero => exact hc'.elim
        | succ d => exact hc'.1
      have := (okA_131 (L, xs) y' hy').2.1
      show 8 + ((am_mt y').2.2.1 + 11) + 60 * (d + 1) ≤ 84000
      omega
  · intro pc lsA h H locs k z hR hS hk hz
    refine ⟨fun ty x hret hn hq hdg => ?_, fun x hret => (by cases hret), fun hret => (by cases hret)⟩
    cases hq
    exact va_forget (fun q hq => hS.2.2 q hq) (W.widen hk hz (lw_ret hx hb hr hlocks hdg))
