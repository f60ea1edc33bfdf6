def va_AOA (ty : FieldType) (U : State) : Prop := (Cond.arrayOver (.array ty)).before #[] U = true
theorem va_AOA.use {ty : FieldType} {A : Array Value} {U : State} (h : va_AOA ty U) : (Cond.arrayOver (.array ty)).before A U = true := h
theorem va_AOA.moved {ty : FieldType} {u U : State} (hvm : u.vm.Alike U.vm) (h : va_AOA ty u) : va_AOA ty U := by
  obtain ⟨comp, c, k, h1, h2, h3, h4, h5⟩ := arrayOverA_spec h
  obtain ⟨k', hk', he⟩ := hvm.2.2 _ _ h3
  have hi : (U.vm.classes.findIdx? fun (x : Class) => match x.kind with | .array component _ => component == comp | _ => false) = some c := by
    have e1 := va_idx_bare U.vm comp
    have e2 := va_idx_bare u.vm comp
    first | rw [hvm.bare_eq] at e1 | rw [← hvm.bare_eq] at e1
    exact (e1.symm.trans e2).trans h2
  have hkind : k'.kind = .array comp (.array ty) := by rw [he]; exact h4
  have f1 : U.vm.findClass (FieldType.array ty).toString = some comp := by rw [hvm.findClass]; exact h1
  have f2 : U.vm.findClass ("[" ++ (FieldType.array ty).toString) = some c := by rw [hvm.findClass]; exact h5
  unfold va_AOA Cond.before Cond.holds
  simp only [Cond.value]
  rw [f1, Option.bind_some]
  refine (congrArg (fun o : Option Nat => (o.bind (fun c => (U.vm.classes[c]?).map fun (k : Class) => match k.kind with | .array _ ty' => decide (ty' = FieldType.array ty) && decide (U.vm.findClass ("[" ++ (FieldType.array ty).toString) = some c) | _ => false) == some true)) hi).trans ?_
  simp [hk', hkind, f2]
def am_isN (w : Cond) : Bool := match w with
  | .fieldLinkNest .. => true
  | .methodLinkNest .. => true
  | _ => false
abbrev am_tyl : List FieldType := [.int, .long, .char, .array .int, .object "SpeciesRounds$Rule"]
abbrev am_tys (cA : FieldType → ClassId) : List (ClassId × FieldType) := am_tyl.map (fun t => (cA t, t))
/-- what is known of the old cells: filled where it is needed -/
abbrev am_Lx : Type := Nat × (Nat → Int32)
def am_Z (lx : am_Lx) (S : Nat → Nat) (H0 : Heap) (U : State) : Prop := S 0 < H0.size ∧ va_X (S 0) lx.1 lx.2 U H0
/-- the three texts of the reader: their cells, their arrays of bytes -/
abbrev am_stl : List Nat := [4, 3, 2]
abbrev am_stb : List (List Int32) := [[72, 79, 78, 67], [45, 61, 35], [49, 50]]
/-- the class in which a field of String is found -/
def am_fc (U : State) (n d : String) : Option ClassId := (U.fieldFound? "java/lang/String" n d).bind (fun w => some w.1)
theorem am_fc.moved {u U : State} (h : u.vm.Alike U.vm) (n d : String) : am_fc U n d = am_fc u n d := State.fieldFound?_bind_setVm (s := u) (vm' := U.vm) h _ n d _ (fun _ _ _ _ _ _ _ => rfl)
theorem am_fc.get {U : State} {n d : String} {c : ClassId} {k : Class} {i : Nat} {f : Field} (h : U.fieldFound? "java/lang/String" n d = some (c, k, i, f)) : am_fc U n d = some c := by
  unfold am_fc
  rw [h]
  rfl
theorem am_fc.has {U : State} {n d : String} {c : ClassId} (h : am_fc U n d = some c) : ∃ k i f, U.fieldFound? "java/lang/String" n d = some (c, k, i, f) := by
  unfold am_fc at h
  cases hf : U.fieldFound? "java/lang/String" n d with
  | none => rw [hf] at h; cases h
  | some w =>
    rw [hf] at h
    cases h
    exact ⟨_, _, _, rfl⟩
def am_Sx (S : Nat → Nat) (H0 : Heap) (U : State) : Prop := ∀ cS : ClassId, U.vm.findClass "java/lang/String" = some cS → (∀ n d, (n, d) ∈ [("coder", "B"), ("value", "[B")] → ∀ c, am_fc U n d = some c → U.vm.assignable cS c = true) ∧ ∃ k : Class, U.vm.classes[cS]? = some k ∧ (k.kind = .ordinary → ∀ i : Nat, i < 3 → ∀ cell : Cell, H0[S (i + 1)]? = some cell → cell.slots.size = k.instanceTypes.size)
theorem am_Sx.moved {S : Nat → Nat} {H0 : Heap} {u U : State} (hvm : u.vm.Alike U.vm) (h : am_Sx S H0 u) : am_Sx S H0 U := by
  intro cS hc
  rw [hvm.findClass] at hc
  obtain ⟨h1, k, h3, h4⟩ := h cS hc
  obtain ⟨k', h3', e⟩ := hvm.2.2 _ _ h3
  refine ⟨fun n d hm c hf => ?_, k', h3', fun hk => by rw [e] at hk ⊢; exact h4 hk⟩
  rw [am_fc.moved hvm] at hf
  rw [hvm.assignable]
  exact h1 n d hm c hf
def am_St (S : Nat → Nat) (H0 : Heap) (U : State) : Prop := vk_R "SpeciesRounds$Reader" 69 "HONC" (S 1) U ∧ vk_R "SpeciesRounds$Reader" 81 "-=#" (S 2) U ∧ vk_R "SpeciesRounds$Reader" 86 "12" (S 3) U ∧ va_Z "java/lang/String" "COMPACT_STRINGS" "Z" (.int 1) (fun q => H0.size ≤ q) U H0 ∧ vk_S 3 am_stl am_stb (fun i => S (i + 1)) (fun i => S (i + 4)) (fun q => H0.size ≤ q) U H0 ∧ (∀ i : Nat, i < 3 → ∀ cell : Cell, H0[S (i + 4)]? = some cell → cell.slots.size = am_stl.getD i 0) ∧ am_Sx S H0 U
theorem am_St.warm {S : Nat → Nat} {H0 : Heap} {s U : State} (hW : s.WarmedH U.vm) (h : am_St S H0 s) : am_St S H0 U := ⟨vk_R.warm hW h.1, vk_R.warm hW h.2.1, vk_R.warm hW h.2.2.1, va_Z.moved hW.alike h.2.2.2.1, vk_S.moved hW.alike h.2.2.2.2.1, h.2.2.2.2.2.1, am_Sx.moved hW.alike h.2.2.2.2.2.2⟩
theorem am_St.same {S : Nat → Nat} {H0 : Heap} {s U : State} (hW : s.vm = U.vm) (h : am_St S H0 s) : am_St S H0 U := ⟨vk_R.same hW.symm h.1, vk_R.same hW.symm h.2.1, vk_R.same hW.symm h.2.2.1, va_Z.moved (hW ▸ Vm.Alike.refl s.vm) h.2.2.2.1, vk_S.moved (hW ▸ Vm.Alike.refl s.vm) h.2.2.2.2.1, h.2.2.2.2.2.1, am_Sx.moved (hW ▸ Vm.Alike.refl s.vm) h.2.2.2.2.2.2⟩
def am_E (lx : am_Lx) (D : va_G) (cA : FieldType → ClassId) (S : Nat → Nat) (H0 : Heap) (U : State) : Prop := va_K D am_cl (am_tys cA) U ∧ (∀ w ∈ tables_1, am_isN w = true → va_Nw w U) ∧ va_AO "SpeciesRounds$Rule" U ∧ va_AOA .int U ∧ am_Z lx S H0 U ∧ am_St S H0 U
theorem am_N_warm {w : Cond} {s U : State} (hn : am_isN w = true) (hW : s.WarmedH U.vm) (h : va_Nw w s) : va_Nw w U := by
  unfold am_isN at hn
  split at hn
  · exact va_Nw.warmF hW h
  · exact va_Nw.warmM hW h
  · cases hn
theorem am_N_same {w : Cond} {s U : State} (hn : am_isN w = true) (hW : s.vm = U.vm) (h : va_Nw w s) : va_Nw w U := by
  unfold am_isN at hn
  split at hn
  · exact va_Nw.same rfl hW h
  · exact va_Nw.same rfl hW h
  · cases hn
theorem am_E.warm {lx : am_Lx} {D : va_G} {cA : FieldType → ClassId} {S : Nat → Nat} {H0 : Heap} {s U : State} (hW : s.WarmedH U.vm) (h : am_E lx D cA S H0 s) : am_E lx D cA S H0 U :=
  ⟨va_K.moved hW.alike h.1, fun w hw hn => am_N_warm hn hW (h.2.1 w hw hn), h.2.2.1.moved hW.alike, h.2.2.2.1.moved hW.alike, ⟨h.2.2.2.2.1.1, h.2.2.2.2.1.2.moved hW.alike⟩, h.2.2.2.2.2.warm hW⟩
theorem am_E.same {lx : am_Lx} {D : va_G} {cA : FieldType → ClassId} {S : Nat → Nat} {H0 : Heap} {s U : State} (hW : s.vm = U.vm) (h : am_E lx D cA S H0 s) : am_E lx D cA S H0 U :=
  ⟨va_K.moved (hW ▸ Vm.Alike.refl s.vm) h.1, fun w hw hn => am_N_same hn hW (h.2.1 w hw hn), h.2.2.1.moved (hW ▸ Vm.Alike.refl s.vm), h.2.2.2.1.moved (hW ▸ Vm.Alike.refl s.vm), ⟨h.2.2.2.2.1.1, h.2.2.2.2.1.2.moved (hW ▸ Vm.Alike.refl s.vm)⟩, h.2.2.2.2.2.same hW⟩
def am_Pc (lx : am_Lx) (D : va_G) (cA : FieldType → ClassId) (S : Nat → Nat) (H0 : Heap) (As : List Value) (h : am_H) : Array Value → State → Prop := va_Pc (As.map (am_cv S H0.size)) (fun U => am_R D am_cl cA S H0 h U.heap ∧ am_E lx D cA S H0 U)
def am_Qc (lx : am_Lx) (D : va_G) (cA : FieldType → ClassId) (S : Nat → Nat) (H0 : Heap) (Q : am_Q) : Array Value → State → Outcome → State → Prop := fun _ st oc t => (∃ (v : Option Value) (h' : am_H), oc = .returned (v.map (am_cv S H0.size)) ∧ Q v h' ∧ am_R D am_cl cA S H0 h' t.heap ∧ am_E lx D cA S H0 t) ∧ va_F (fun q => H0.size ≤ q) st t
/-- a method: its name, code, locals, answer, the cells and slots that it may make -/
abbrev am_Mt : Type := MethodName × ByteArray × Nat × Option FieldType × Nat × Nat
abbrev am_ws (y : am_Mt) : List Cond := .code y.1 y.2.1 y.2.2.1 y.2.2.2.1 :: am_G
def am_Ks (lx : am_Lx) (mt : Nat → am_Mt) (l : Launch) (R : Room) (D : va_G) (cA : FieldType → ClassId) (S : Nat → Nat) (H0 : Heap) (K : am_K) : Prop := ∀ (y : Nat) (As : List Value) (h : am_H) (Q : am_Q), K y As h Q → ∃ rm : Room, Met l (mt y).1 (am_ws (mt y)) rm (am_Pc lx D cA S H0 As h) (am_Qc lx D cA S H0 Q) (mt y).2.2.2.2.1 (mt y).2.2.2.2.2 (fun q => H0.size ≤ q) ∧ rm.cells = (mt y).2.2.2.2.1 ∧ rm.slots = (mt y).2.2.2.2.2 ∧ rm.frames + 1 ≤ R.frames ∧ 8 + ((mt y).2.2.1 + 11) + rm.locals ≤ R.locals
def am_Cx (lx : am_Lx) (p : Program) (R : Room) (s : State) (m : MethodId) (args : Array Value) (meth : Method) (c : Code) (own nm : String) (cc : ByteArray) (nL mc ms : Nat) (D : va_G) (cA : FieldType → ClassId) (S : Nat → Nat) (H0 : Heap) : Prop :=
  p.tables.exec = Jvm.exec ∧ c.code = cc ∧ c.maxLocals = nL ∧ s.vm.findClass own = some m.cls ∧ (∀ w ∈ am_G, w.before args s = true) ∧ am_E lx D cA S H0 s ∧ meth.name = nm ∧ (H0.size ≤ s.heap.size ∧ ∀ q : Nat, q < H0.size → s.heap[q]? = H0[q]?) ∧ 5 ≤ R.frames ∧ 240 ≤ R.locals ∧ R.cells = mc ∧ R.slots = ms
def am_W (p : Program) (l : Launch) (e : Env) (R : Room) (s : State) (m : MethodId) (args : Array Value) (below : List Frame) (meth : Method) (c : Code) (nL : Nat) (D : va_G) (cA : FieldType → ClassId) (S : Nat → Nat) (H0 : Heap) (Qw : State → Prop) : am_X := fun pc ls st h cc z =>
  ∀ (H : Heap) (locs : List Loc) (lsA : Array Slot), am_R D am_cl cA S H0 h H → va_S (fun q => H0.size ≤ q) s.heap H locs → am_lv S H0.size lsA nL ls → cc ≤ R.cells → z ≤ R.slots → W p l e R s m args below meth c H locs cc z Qw (F0 m pc lsA (st.map (am_cv S H0.size)))
def am_Rs (p : Program) (l : Launch) (e : Env) (R : Room) (s : State) (m : MethodId) (args : Array Value) (below : List Frame) (meth : Method) (c : Code) (cc : ByteArray) (ret : Option FieldType) (D : va_G) (cA : FieldType → ClassId) (S : Nat → Nat) (H0 : Heap) (Q : am_Q) (Qw : State → Prop) : Prop :=
  ∀ (pc : Nat) (lsA : Array Slot) (h : am_H) (H : Heap) (locs : List Loc) (k z : Nat), am_R D am_cl cA S H0 h H → va_S (fun q => H0.size ≤ q) s.heap H locs → k ≤ R.cells → z ≤ R.slots →
    (∀ (ty : FieldType) (x : Int32), ret = some ty → narrow ty (.int x) = .int x → Q (some (.int x)) h → decode cc pc = .ok (.ireturn, 1) → W p l e R s m args below meth c H locs k z Qw (F0 m pc lsA [.int x])) ∧
    (∀ x : Int64, ret = some .long → Q (some (.long x)) h → decode cc pc = .ok (.lreturn, 1) → W p l e R s m args below meth c H locs k z Qw (F0 m pc lsA [.long x])) ∧
    (ret = none → Q none h → decode cc pc = .ok (.return_, 1) → W p l e R s m args below meth c H locs k z Qw (F0 m pc lsA []))
/-- an instruction's transformer is right at a place of a method's code -/
def am_Sd (lx : am_Lx) (mt : Nat → am_Mt) (own nm : String) (cc : ByteArray) (nL mc ms : Nat) (ret : Option FieldType) (pc : Nat) (T : am_T) : Prop :=
  ∀ (p : Program) (l : Launch) (e : Env) (R : Room) (s : State) (m : MethodId) (args : Array Value) (below : List Frame) (meth : Method) (c : Code) (D : va_G) (cA : FieldType → ClassId) (S : Nat → Nat) (H0 : Heap) (Qw : State → Prop) (K : am_K) (Q : am_Q) (X : am_X),
    am_Cx lx p R s m args meth c own nm cc nL mc ms D cA S H0 → am_Ks lx mt l R D cA S H0 K → am_Rs p l e R s m args below meth c cc ret D cA S H0 Q Qw →
    (∀ pc ls st h k z, X pc ls st h k z → am_W p l e R s m args below meth c nL D cA S H0 Qw pc ls st h k z) →
    ∀ ls st h k z, T K Q X pc ls st h k z → am_W p l e R s m args below meth c nL D cA S H0 Qw pc ls st h k z
