/-! new int[n][k], from the model's own text: the loop that makes the inner arrays, and the step. -/
theorem am_wpNew {E : CtlPost} {e : Env} {d : Bool} {acts : List Action} {s : State} {Q : Addr → Pre} {c comp : ClassId} {k : Class} {ty : FieldType} {n : Nat} {v : Value}
    (hk : s.vm.classes[c]? = some k) (hkind : k.kind = .array comp ty) (hlim : n ≤ e.platform.arrayLengthLimit) (hheap : n * componentBytes ty ≤ e.platform.maxHeapBytes)
    (hc : s.heap.size < e.platform.maxCells) (hsl : s.slotsUsed + n ≤ e.platform.maxSlots) (hfit : fits ty v = true)
    (hq : ∀ acts', Q s.heap.size d acts' (s.pushCell { cls := c, slots := Array.replicate n v, vm := .none })) :
    wp (Jvm.newArray c n v) Q E e d acts s := by
  have h1 : ¬ n > e.platform.arrayLengthLimit := by omega
  have h2 : ¬ n * componentBytes ty > e.platform.maxHeapBytes := by omega
  have h3 : ¬ n > e.platform.maxSlots := by omega
  simp only [Jvm.newArray, Jvm.arrayFits, wp_bind', W.ask, h1, if_false, wp_pure', W.theClass, hk, Option.some.injEq, exists_eq_left', hkind, h2, h3, W.alloc]
  refine ⟨hc, by rw [Array.size_replicate]; exact hsl, fun i w hw => ?_, hq _⟩
  rw [Array.getElem?_replicate] at hw
  split at hw
  · cases hw; simp [State.fitsSlot, State.slotType?, hk, hkind, hfit]
  · cases hw

/-- the outer array, its first j places filled -/
def am_oc (c : ClassId) (n h : Nat) : Nat → Cell
  | 0 => { cls := c, slots := Array.replicate n .null, vm := .none }
  | j + 1 => (am_oc c n h j).setSlot j (.ref (h + 1 + j))
/-- the outer array made, j inner ones behind it -/
def am_fl (B : State) (c c' : ClassId) (n k : Nat) (v : Value) : Nat → State
  | 0 => B.pushCell (am_oc c n B.heap.size 0)
  | j + 1 => ((am_fl B c c' n k v j).pushCell { cls := c', slots := Array.replicate k v, vm := .none }).setCell B.heap.size (am_oc c n B.heap.size (j + 1))

theorem am_oc_size (c : ClassId) (n h : Nat) : ∀ j, (am_oc c n h j).slots.size = n
  | 0 => by simp [am_oc]
  | j + 1 => by simp [am_oc, Cell.setSlot, am_oc_size c n h j]
theorem am_oc_cls (c : ClassId) (n h : Nat) : ∀ j, (am_oc c n h j).cls = c ∧ (am_oc c n h j).vm = .none
  | 0 => ⟨rfl, rfl⟩
  | j + 1 => am_oc_cls c n h j
theorem am_oc_eq (c : ClassId) (n h : Nat) : ∀ j, am_oc c n h j = { cls := c, slots := Array.ofFn (n := n) fun i => if i.val < j then .ref (h + 1 + i.val) else .null, vm := .none }
  | 0 => by
    unfold am_oc
    congr 1
    apply Array.ext_getElem?
    intro i
    rw [Array.getElem?_replicate, Array.getElem?_ofFn]
    by_cases hi : i < n
    · rw [if_pos hi, dif_pos hi]; simp
    · rw [if_neg hi, dif_neg hi]
  | j + 1 => by
    unfold am_oc
    rw [am_oc_eq c n h j]
    unfold Cell.setSlot
    congr 1
    apply Array.ext_getElem?
    intro i
    rw [Array.getElem?_setIfInBounds, Array.getElem?_ofFn, Array.getElem?_ofFn, Array.size_ofFn]
    by_cases hi : i < n
    · rw [dif_pos hi, dif_pos hi]
      by_cases hj : j = i
      · subst hj; simp [hi]
      · rw [if_neg hj]
        by_cases h1 : i < j
        · simp [h1, show i < j + 1 by omega]
        · simp [h1, show ¬ i < j + 1 by omega]
    · rw [dif_neg hi, dif_neg hi]
      by_cases hj : j = i
      · subst hj; simp [hi]
      · rw [if_neg hj]

section
variable (B : State) (c c' : ClassId) (n k : Nat) (v : Value)
theorem am_fl_vm : ∀ j, (am_fl B c c' n k v j).vm = B.vm
  | 0 => rfl
  | j + 1 => am_fl_vm j
theorem am_fl_top : ∀ j, (am_fl B c c' n k v j).topJava? = B.topJava?
  | 0 => rfl
  | j + 1 => am_fl_top j
theorem am_fl_used : ∀ j, (am_fl B c c' n k v j).slotsUsed = B.slotsUsed + n + j * k
  | 0 => by simp [am_fl, am_oc, State.pushCell]
  | j + 1 => by
    have := am_fl_used j
    show (am_fl B c c' n k v j).slotsUsed + (Array.replicate k v).size = _
    rw [this, Array.size_replicate, Nat.succ_mul]; omega
theorem am_fl_size : ∀ j, (am_fl B c c' n k v j).heap.size = B.heap.size + 1 + j
  | 0 => by simp [am_fl, State.pushCell]
  | j + 1 => by
    have := am_fl_size j
    simp [am_fl, State.pushCell, State.setCell, this]; omega
theorem am_fl_out : ∀ j, (am_fl B c c' n k v j).heap[B.heap.size]? = some (am_oc c n B.heap.size j)
  | 0 => by simp [am_fl, State.pushCell]
  | j + 1 => by
    have h := am_fl_size B c c' n k v j
    simp only [am_fl, State.pushCell, State.setCell]
    rw [Array.getElem?_setIfInBounds, if_pos rfl, if_pos (by rw [Array.size_push, h]; omega)]
theorem am_fl_old {q : Nat} (hq : q < B.heap.size) : ∀ j, (am_fl B c c' n k v j).heap[q]? = B.heap[q]?
  | 0 => by
    simp only [am_fl, State.pushCell]
    rw [Array.getElem?_push, if_neg (by omega)]
  | j + 1 => by
    have h := am_fl_size B c c' n k v j
    simp only [am_fl, State.pushCell, State.setCell]
    rw [Array.getElem?_setIfInBounds, if_neg (by omega), Array.getElem?_push, if_neg (by omega)]
    exact am_fl_old hq j
theorem am_fl_in : ∀ (j i : Nat), i < j → (am_fl B c c' n k v j).heap[B.heap.size + 1 + i]? = some { cls := c', slots := Array.replicate k v, vm := .none }
  | 0, _, hi => absurd hi (Nat.not_lt_zero _)
  | j + 1, i, hi => by
    have h := am_fl_size B c c' n k v j
    simp only [am_fl, State.pushCell, State.setCell]
    rw [Array.getElem?_setIfInBounds, if_neg (by omega), Array.getElem?_push]
    by_cases e : B.heap.size + 1 + i = (am_fl B c c' n k v j).heap.size
    · rw [if_pos e]
    · rw [if_neg e]
      exact am_fl_in j i (by omega)
theorem am_fl_setTop (f : JFrame) : ∀ j, am_fl (B.setTop f) c c' n k v j = (am_fl B c c' n k v j).setTop f
  | 0 => rfl
  | j + 1 => by
    have h := am_fl_setTop f j
    unfold am_fl
    rw [h]
    rfl
end
section
variable {E : CtlPost} {e : Env} {d : Bool} {acts : List Action} {s : State} {f : JFrame}
/-- arrays of arrays, by the model's own loop -/
theorem am_wpMake {Q : Addr → Pre} {B : State} {c c' z : ClassId} {kc kc' : Class} {ty : FieldType} {n k : Int32}
    (hc : B.vm.classes[c]? = some kc) (hkc : kc.kind = .array c' (.array ty)) (hc' : B.vm.classes[c']? = some kc') (hkc' : kc'.kind = .array z ty)
    (hn : ¬ n < 0) (hk : ¬ k < 0) (hl1 : n.toNatClampNeg ≤ e.platform.arrayLengthLimit) (hl2 : k.toNatClampNeg ≤ e.platform.arrayLengthLimit)
    (hb1 : n.toNatClampNeg * 4 ≤ e.platform.maxHeapBytes) (hb2 : k.toNatClampNeg * componentBytes ty ≤ e.platform.maxHeapBytes)
    (hr1 : B.heap.size + (1 + n.toNatClampNeg) ≤ e.platform.maxCells) (hr2 : B.slotsUsed + (n.toNatClampNeg + n.toNatClampNeg * k.toNatClampNeg) ≤ e.platform.maxSlots)
    (hq : ∀ d' acts', Q B.heap.size d' acts' (am_fl B c c' n.toNatClampNeg k.toNatClampNeg (defaultValue ty) n.toNatClampNeg)) :
    wp (multianewarray.make c [n, k]) Q E e d acts B := by
  have hfind : [k].find? (· < 0) = none := by simp [hk]
  rw [multianewarray.make]
  simp only [wp_bind', hn, if_false, W.theClass, hc, Option.some.injEq, exists_eq_left', hkc]
  refine am_wpNew hc hkc hl1 hb1 (by omega) (by omega) rfl (fun acts1 => ?_)
  rw [hfind]
  simp only [ite_self, wp_bind', Std.Legacy.Range.forIn_eq_forIn_range']
  refine wp_forIn_inv (fun rest st => ∃ j, j ≤ n.toNatClampNeg ∧ rest = List.range' j (n.toNatClampNeg - j) ∧ st = am_fl B c c' n.toNatClampNeg k.toNatClampNeg (defaultValue ty) j) _ _ ⟨0, Nat.zero_le _, ?_, rfl⟩ ?_ ?_
  · simp [Std.Legacy.Range.size]
  · rintro x rest st d' acts' Q' ⟨j, hj, hl, rfl⟩ hQ
    obtain ⟨m, hm⟩ : ∃ m, n.toNatClampNeg - j = m + 1 := by
      cases hnj : n.toNatClampNeg - j with
      | zero => rw [hnj] at hl; simp at hl
      | succ m => exact ⟨m, rfl⟩
    rw [hm, List.range'_succ] at hl
    obtain ⟨rfl, rfl⟩ := List.cons.inj hl
    have hsz := am_fl_size B c c' n.toNatClampNeg k.toNatClampNeg (defaultValue ty) x
    have hus := am_fl_used B c c' n.toNatClampNeg k.toNatClampNeg (defaultValue ty) x
    have hvm := am_fl_vm B c c' n.toNatClampNeg k.toNatClampNeg (defaultValue ty) x
    have hmul : (x + 1) * k.toNatClampNeg ≤ n.toNatClampNeg * k.toNatClampNeg := Nat.mul_le_mul_right _ (by omega)
    rw [Nat.succ_mul] at hmul
    rw [multianewarray.make]
    simp only [wp_bind', hk, if_false, W.theClass, hvm, hc', Option.some.injEq, exists_eq_left', hkc']
    refine am_wpNew (by rw [hvm]; exact hc') hkc' hl2 hb2 (by omega) (by omega) (fits_default _) (fun acts2 => ?_)
    simp only [wp_bind', W.writeLoc, wp_pure']
    have hout : ((am_fl B c c' n.toNatClampNeg k.toNatClampNeg (defaultValue ty) x).pushCell { cls := c', slots := Array.replicate k.toNatClampNeg (defaultValue ty), vm := .none }).heap[B.heap.size]? = some (am_oc c n.toNatClampNeg B.heap.size x) := by
      simp only [State.pushCell]
      rw [Array.getElem?_push, if_neg (by omega)]
      exact am_fl_out B c c' n.toNatClampNeg k.toNatClampNeg (defaultValue ty) x
    refine ⟨_, hout, by rw [(am_oc_cls c n.toNatClampNeg B.heap.size x).2]; simp, by rw [am_oc_size]; omega, ?_, hQ _ _ _ ⟨x + 1, by omega, by rw [show n.toNatClampNeg - (x + 1) = m by omega], ?_⟩⟩
    · rw [(am_oc_cls c n.toNatClampNeg B.heap.size x).1, (am_oc_cls c n.toNatClampNeg B.heap.size x).2]
      simp [State.fitsSlot, State.slotType?, State.pushCell, hvm, hc, hkc, fits]
    · rw [hsz]; rfl
  · rintro st d' acts' ⟨j, hj, hl, rfl⟩
    obtain rfl : j = n.toNatClampNeg := by
      have := congrArg List.length hl
      simp at this
      omega
    exact hq _ _
theorem am_wpMulti {Q : Unit → Pre} {index : Nat} {c c' z : ClassId} {kc kc' : Class} {ty : FieldType} {n k : Int32} {rest : List Value} (hs : s.topJava?.isSome) (hr : s.vm.classReady f.method.cls index c)
    (hc : s.vm.classes[c]? = some kc) (hkc : kc.kind = .array c' (.array ty)) (hc' : s.vm.classes[c']? = some kc') (hkc' : kc'.kind = .array z ty) (hst : f.stack = .int k :: .int n :: rest)
    (hn : ¬ n < 0) (hk : ¬ k < 0) (hl1 : n.toNatClampNeg ≤ e.platform.arrayLengthLimit) (hl2 : k.toNatClampNeg ≤ e.platform.arrayLengthLimit)
    (hb1 : n.toNatClampNeg * 4 ≤ e.platform.maxHeapBytes) (hb2 : k.toNatClampNeg * componentBytes ty ≤ e.platform.maxHeapBytes)
    (hr1 : s.heap.size + (1 + n.toNatClampNeg) ≤ e.platform.maxCells) (hr2 : s.slotsUsed + (n.toNatClampNeg + n.toNatClampNeg * k.toNatClampNeg) ≤ e.platform.maxSlots)
    (hq : ∀ d' acts', Q () d' acts' ((am_fl s c c' n.toNatClampNeg k.toNatClampNeg (defaultValue ty) n.toNatClampNeg).setTop { f with stack := .ref s.heap.size :: rest })) :
    wp (multianewarray.sem index 2) Q E e d acts (s.setTop f) := by
  simp only [multianewarray.sem, wp_bind', W.resolveClassAt_ready (State.method?_setTop f hs) hr, W.popN]
  rw [if_neg (by decide)]
  refine ⟨f, State.topJava?_setTop' _ hs, [.int n, .int k], rest, rfl, hst, ?_⟩
  rw [State.setTop_setTop]
  simp only [List.mapM_cons, List.mapM_nil, wp_bind', wp_pure']
  refine am_wpMake (B := s.setTop { f with stack := rest }) hc hkc hc' hkc' hn hk hl1 hl2 hb1 hb2 hr1 hr2 (fun d' acts' => ?_)
  simp only [wp_bind', W.mark, W.pushRef]
  rw [am_fl_setTop]
  refine ⟨_, State.topJava?_setTop' _ (by rw [am_fl_top]; exact hs), ?_⟩
  rw [State.setTop_setTop]
  exact hq _ _
end
section
variable {p : Program} {l : Launch} {e : Env} {R : Room} {s : State} {m : MethodId} {args : Array Value} {below : List Frame} {meth : Method} {c : Code} {T : State} {locs : List Loc} {cells slots : Nat}
theorem am_X_fl (X : Stand p l e R s m args below meth c T locs cells slots) (b b' : ClassId) (n k : Nat) (v : Value) : ∀ j, Stand p l e R s m args below meth c (am_fl T b b' n k v j) locs (cells + 1 + j) (slots + n + j * k)
  | 0 => by
    have h := X.pushed (am_oc b n T.heap.size 0)
    rw [am_oc_size] at h
    rw [Nat.zero_mul]
    exact h
  | j + 1 => by
    have hsz := am_fl_size T b b' n k v j
    have h := (am_X_fl X b b' n k v j).pushed { cls := b', slots := Array.replicate k v, vm := .none }
    have hout : ((am_fl T b b' n k v j).pushCell { cls := b', slots := Array.replicate k v, vm := .none }).heap[T.heap.size]? = some (am_oc b n T.heap.size j) := by
      simp only [State.pushCell]
      rw [Array.getElem?_push, if_neg (by omega)]
      exact am_fl_out T b b' n k v j
    have h1 := (h.stored hout j (.ref (T.heap.size + 1 + j))).dropFresh (fun x hx => by
      rw [List.mem_singleton] at hx
      subst hx
      exact X.heapGrown)
    rw [Array.size_replicate] at h1
    rw [Nat.succ_mul, ← Nat.add_assoc (slots + n)]
    exact h1
theorem am_X_new2 (X : Stand p l e R s m args below meth c T locs cells slots) (hexec : p.tables.exec = Jvm.exec) {own : String} {index : Nat} (hown : s.vm.findClass own = some m.cls)
    {b b' z : ClassId} {kb kb' : Class} {C : String} {ty : FieldType} (hlink : (Cond.classLink own index C).before args s = true) (hb : s.vm.findClass C = some b) (hkb : s.vm.classes[b]? = some kb) (hb1 : kb.kind = .array b' (.array ty)) (hkb' : s.vm.classes[b']? = some kb') (hb2 : kb'.kind = .array z ty)
    {g : JFrame} (hg : g.method = m) (hdg : decode c.code g.pc = .ok (.multianewarray index 2, 4)) {n k : Int32} {rest : List Value} (hst : g.stack = .int k :: .int n :: rest)
    (hn : ¬ n < 0) (hk : ¬ k < 0) (hn1 : n.toNatClampNeg * 4 ≤ 536870912) (hk1 : k.toNatClampNeg ≤ 536870912) (hk2 : k.toNatClampNeg * componentBytes ty ≤ 536870912)
    (hcells : cells + (1 + n.toNatClampNeg) ≤ R.cells) (hslots : slots + (n.toNatClampNeg + n.toNatClampNeg * k.toNatClampNeg) ≤ R.slots) :
    ∃ vm₁ : Vm, s.WarmedH vm₁ ∧ Stand p l e R s m args below meth c (am_fl (T.setVm vm₁) b b' n.toNatClampNeg k.toNatClampNeg (defaultValue ty) n.toNatClampNeg) locs (cells + 1 + n.toNatClampNeg) (slots + n.toNatClampNeg + n.toNatClampNeg * k.toNatClampNeg) ∧
      ∀ target, Steps p.tables e below ((am_fl (T.setVm vm₁) b b' n.toNatClampNeg k.toNatClampNeg (defaultValue ty) n.toNatClampNeg).setTop { g with pc := g.pc + 4, stack := .ref T.heap.size :: rest }) target → Steps p.tables e below (T.setTop g) target := by
  subst hg
  have hpl : e.platform.magicAccessors = ({} : Platform).magicAccessors := by rw [X.admits.platform]
  obtain ⟨b0, hb0, hcl⟩ := Cond.classLink_spec hown hlink e.platform hpl
  cases hb.symm.trans hb0
  obtain ⟨g1, w1, r1⟩ := State.classEntry (e := e) X.warmed hcl
  have hsz : (T.vm.noted g.method.cls index (.cls b)).classes.size ≤ T.vm.classes.size := by no_record
  generalize T.vm.noted g.method.cls index (.cls b) = vm₁ at g1 w1 r1 hsz
  obtain ⟨kb₁, q1, e1⟩ := w1.alike.2.2 _ _ hkb
  obtain ⟨kb₂, q2, e2⟩ := w1.alike.2.2 _ _ hkb'
  have X1 := am_X_fl (X.noted w1) b b' n.toNatClampNeg k.toNatClampNeg (defaultValue ty) n.toNatClampNeg
  obtain ⟨hr1, hr2⟩ := X.roomAbove hcells hslots
  refine ⟨vm₁, w1, X1, fun target ht => ?_⟩
  refine Steps.instr (c := c) X.here ?_
  rw [hdg]
  show wpRun (p.tables.exec (.multianewarray index 2)) _ _ e (T.setTop g)
  rw [hexec]
  show wp (multianewarray.sem index 2) _ _ e false [] (T.setTop g)
  have hcold : ∀ (Q : Unit → Pre) (E : CtlPost), wp (multianewarray.sem index 2) Q E e false [] (T.setTop g) ↔ wp (multianewarray.sem index 2) Q E e false [] ((T.setVm vm₁).setTop g) := fun Q E => by
    simp only [multianewarray.sem, wp_bind']
    exact W.resolveClassAt_transfer (s := T.setTop g) (State.method?_setTop g X.here.top) g1 r1 hsz
  rw [hcold]
  refine am_wpMulti (s := T.setVm vm₁) X.here.top r1 q1 (by rw [e1]; exact hb1) q2 (by rw [e2]; exact hb2) hst hn hk (by rw [Launch.admits_arrayLengthLimit X.admits]; omega) (by rw [Launch.admits_arrayLengthLimit X.admits]; omega) (by rw [Launch.admits_maxHeapBytes X.admits]; exact hn1) (by rw [Launch.admits_maxHeapBytes X.admits]; exact hk2) hr1 hr2 (fun d' acts' acts'' => ?_)
  rw [afterInstr_ok]
  exact ht
end
