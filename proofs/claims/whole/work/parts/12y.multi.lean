/-! new int[n][k], from the model's own text. am_lay: a state with a list of cells laid behind its heap. am_grid: those cells, n rows of which j are made. One turn of the model's loop takes am_grid .. j to am_grid .. (j + 1). -/
def am_lay (B : State) (L : List Cell) (z : Nat) : State := { B with heap := B.heap ++ L.toArray, slotsUsed := B.slotsUsed + z }
def am_grid (b b' : ClassId) (a n k : Nat) (v : Value) (j : Nat) : List Cell := arrV b n (fun i => if i < j then .ref (a + 1 + i) else .null) :: List.replicate j (arrV b' k (fun _ => v))
theorem am_lay_push (B : State) (L : List Cell) (z : Nat) (x : Cell) : (am_lay B L z).pushCell x = am_lay B (L ++ [x]) (z + x.slots.size) := by
  have h : (B.heap ++ L.toArray).push x = B.heap ++ (L ++ [x]).toArray := by
    apply Array.ext'
    simp
  show ({ B with heap := (B.heap ++ L.toArray).push x, slotsUsed := B.slotsUsed + z + x.slots.size } : State) = { B with heap := B.heap ++ (L ++ [x]).toArray, slotsUsed := B.slotsUsed + (z + x.slots.size) }
  rw [h, Nat.add_assoc]
theorem am_lay_put (B : State) (L : List Cell) (z : Nat) (x y : Cell) : (am_lay B (x :: L) z).setCell B.heap.size y = am_lay B (y :: L) z := by
  have h : (B.heap ++ (x :: L).toArray).setIfInBounds B.heap.size y = B.heap ++ (y :: L).toArray := by
    apply Array.ext'
    rw [Array.toList_setIfInBounds, Array.toList_append, Array.toList_append, List.set_append_right _ _ (by rw [Array.length_toList]; exact Nat.le_refl _), Array.length_toList, Nat.sub_self]
    rfl
  show ({ B with heap := (B.heap ++ (x :: L).toArray).setIfInBounds B.heap.size y, slotsUsed := B.slotsUsed + z } : State) = { B with heap := B.heap ++ (y :: L).toArray, slotsUsed := B.slotsUsed + z }
  rw [h]
theorem am_lay_first (B : State) (x : Cell) : B.pushCell x = am_lay B [x] x.slots.size := by
  have h : B.heap.push x = B.heap ++ [x].toArray := by
    apply Array.ext'
    simp
  show ({ B with heap := B.heap.push x, slotsUsed := B.slotsUsed + x.slots.size } : State) = { B with heap := B.heap ++ [x].toArray, slotsUsed := B.slotsUsed + x.slots.size }
  rw [h]
theorem am_lay_top (B : State) (L : List Cell) (z : Nat) (f : JFrame) : am_lay (B.setTop f) L z = (am_lay B L z).setTop f := rfl
theorem am_lay_old {B : State} {L : List Cell} {z q : Nat} (hq : q < B.heap.size) : (am_lay B L z).heap[q]? = B.heap[q]? := Array.getElem?_append_left hq
theorem am_lay_new (B : State) (L : List Cell) (z j : Nat) : (am_lay B L z).heap[B.heap.size + j]? = L[j]? := by
  show (B.heap ++ L.toArray)[B.heap.size + j]? = _
  rw [Array.getElem?_append_right (Nat.le_add_right _ _), Nat.add_sub_cancel_left, List.getElem?_toArray]
theorem am_lay_size (B : State) (L : List Cell) (z : Nat) : (am_lay B L z).heap.size = B.heap.size + L.length := by
  show (B.heap ++ L.toArray).size = B.heap.size + L.toArray.size
  exact Array.size_append
theorem am_grid_len (b b' : ClassId) (a n k : Nat) (v : Value) (j : Nat) : (am_grid b b' a n k v j).length = j + 1 := by
  rw [am_grid, List.length_cons, List.length_replicate]
theorem am_grid_sum (b b' : ClassId) (a n k : Nat) (v : Value) (j : Nat) : ((am_grid b b' a n k v j).map (·.slots.size)).sum = n + j * k := by
  rw [am_grid, List.map_cons, List.sum_cons, arrV_size, List.map_replicate, arrV_size]
  congr 1
  induction j with
  | zero => simp
  | succ j ih => rw [List.replicate_succ, List.sum_cons, ih, Nat.succ_mul, Nat.add_comm]
/-- the grid, one row more -/
theorem am_grid_turn (B : State) (b b' : ClassId) (n k : Nat) (v : Value) (j : Nat) : ((am_lay B (am_grid b b' B.heap.size n k v j) (n + j * k)).pushCell (arrV b' k (fun _ => v))).setCell B.heap.size ((arrV b n (fun i => if i < j then .ref (B.heap.size + 1 + i) else .null)).setSlot j (.ref (B.heap.size + 1 + j))) = am_lay B (am_grid b b' B.heap.size n k v (j + 1)) (n + (j + 1) * k) := by
  have hf : updV (fun i => if i < j then (.ref (B.heap.size + 1 + i) : Value) else .null) j (.ref (B.heap.size + 1 + j)) = fun i => if i < j + 1 then .ref (B.heap.size + 1 + i) else .null := by
    funext i
    show (if i = j then _ else if i < j then _ else _) = _
    rcases Nat.lt_trichotomy i j with h | h | h
    · rw [if_neg (by omega), if_pos h, if_pos (by omega)]
    · rw [if_pos h, if_pos (by omega), h]
    · rw [if_neg (by omega), if_neg (by omega), if_neg (by omega)]
  rw [am_lay_push, am_grid, List.cons_append, am_lay_put, arrV_store, hf, arrV_size, am_grid, List.replicate_succ', Nat.succ_mul, ← Nat.add_assoc]
/-- the outer array in the grid -/
theorem am_grid_head {B : State} {b b' : ClassId} {n k : Nat} {v : Value} {j z : Nat} {L : List Cell} : (am_lay B (am_grid b b' B.heap.size n k v j ++ L) z).heap[B.heap.size]? = some (arrV b n (fun i => if i < j then .ref (B.heap.size + 1 + i) else .null)) := am_lay_new B _ z 0
section
variable {E : CtlPost} {e : Env} {d : Bool} {acts : List Action}
/-- one row made -/
theorem am_wpRow {Q : Addr → Pre} {s : State} {c z : ClassId} {kc : Class} {ty : FieldType} {k : Int32} (hc : s.vm.classes[c]? = some kc) (hkc : kc.kind = .array z ty) (hk : ¬ k < 0) (hl : k.toNatClampNeg ≤ e.platform.arrayLengthLimit) (hb : k.toNatClampNeg * componentBytes ty ≤ e.platform.maxHeapBytes) (h1 : s.heap.size < e.platform.maxCells) (h2 : s.slotsUsed + k.toNatClampNeg ≤ e.platform.maxSlots)
    (hq : ∀ acts', Q s.heap.size d acts' (s.pushCell (arrV c k.toNatClampNeg (fun _ => defaultValue ty)))) : wp (multianewarray.make c [k]) Q E e d acts s := by
  rw [multianewarray.make]
  simp only [wp_bind', hk, if_false, W.theClass, hc, Option.some.injEq, exists_eq_left', hkc]
  refine W.newArray_of hc hkc (Nat.not_lt.mpr hl) (Nat.not_lt.mpr hb) h1 h2 (fits_default ty) (fun acts' => ?_)
  rw [show ({ cls := c, slots := Array.replicate k.toNatClampNeg (defaultValue ty) } : Cell) = arrV c k.toNatClampNeg (fun _ => defaultValue ty) from arrV_new _ _ _]
  exact hq acts'
/-- the whole grid made -/
theorem am_wpGrid {Q : Addr → Pre} {B : State} {b b' z : ClassId} {kb kb' : Class} {ty : FieldType} {n k : Int32}
    (hb : B.vm.classes[b]? = some kb) (hkb : kb.kind = .array b' (.array ty)) (hb' : B.vm.classes[b']? = some kb') (hkb' : kb'.kind = .array z ty)
    (hn : ¬ n < 0) (hk : ¬ k < 0) (hl1 : n.toNatClampNeg ≤ e.platform.arrayLengthLimit) (hl2 : k.toNatClampNeg ≤ e.platform.arrayLengthLimit)
    (hm1 : n.toNatClampNeg * componentBytes (.array ty) ≤ e.platform.maxHeapBytes) (hm2 : k.toNatClampNeg * componentBytes ty ≤ e.platform.maxHeapBytes)
    (hr1 : B.heap.size + (1 + n.toNatClampNeg) ≤ e.platform.maxCells) (hr2 : B.slotsUsed + (n.toNatClampNeg + n.toNatClampNeg * k.toNatClampNeg) ≤ e.platform.maxSlots)
    (hq : ∀ d' acts', Q B.heap.size d' acts' (am_lay B (am_grid b b' B.heap.size n.toNatClampNeg k.toNatClampNeg (defaultValue ty) n.toNatClampNeg) (n.toNatClampNeg + n.toNatClampNeg * k.toNatClampNeg))) :
    wp (multianewarray.make b [n, k]) Q E e d acts B := by
  generalize hN : n.toNatClampNeg = N at *
  generalize hK : k.toNatClampNeg = K at *
  rw [multianewarray.make]
  simp only [wp_bind', hn, if_false, W.theClass, hb, Option.some.injEq, exists_eq_left', hkb, hN]
  refine W.newArray_of hb hkb (Nat.not_lt.mpr hl1) (Nat.not_lt.mpr hm1) (by omega) (by omega) rfl (fun acts1 => ?_)
  rw [show ({ cls := b, slots := Array.replicate N .null } : Cell) = arrV b N (fun _ => .null) from arrV_new _ _ _, am_lay_first, arrV_size]
  simp only [List.find?_cons, List.find?_nil, hk, decide_false, ite_self, wp_bind', wp_pure', Std.Legacy.Range.forIn_eq_forIn_range']
  refine wp_forIn_inv (fun rest st => rest.length ≤ N ∧ rest = List.range' (N - rest.length) rest.length ∧ st = am_lay B (am_grid b b' B.heap.size N K (defaultValue ty) (N - rest.length)) (N + (N - rest.length) * K)) _ _ ?_ ?_ ?_
  · have hs : ([:N] : Std.Legacy.Range).size = N := by simp [Std.Legacy.Range.size]
    rw [hs, List.length_range', Nat.sub_self]
    refine ⟨Nat.le_refl _, rfl, ?_⟩
    simp [am_grid]
  · rintro x rest st d' acts' Q' ⟨h1, h2, rfl⟩ hQ
    rw [List.length_cons] at h1 h2
    rw [List.range'_succ] at h2
    obtain ⟨rfl, h3⟩ := List.cons.inj h2
    rw [List.length_cons]
    have hj : N - rest.length = N - (rest.length + 1) + 1 := by omega
    have hjN : N - (rest.length + 1) < N := by omega
    rw [hj] at hQ
    generalize N - (rest.length + 1) = j at *
    have hmul : (j + 1) * K ≤ N * K := Nat.mul_le_mul_right _ hjN
    rw [Nat.succ_mul] at hmul
    rw [wp_bind']
    refine am_wpRow (e := e) (s := am_lay B (am_grid b b' B.heap.size N K (defaultValue ty) j) (N + j * K)) hb' hkb' hk (by omega) (by rw [hK]; exact hm2) (by rw [am_lay_size, am_grid_len]; omega) (by show B.slotsUsed + (N + j * K) + _ ≤ _; omega) (fun acts2 => ?_)
    rw [hK]
    simp only [wp_bind', W.writeLoc, wp_pure']
    have ha : ((am_lay B (am_grid b b' B.heap.size N K (defaultValue ty) j) (N + j * K)).pushCell (arrV b' K (fun _ => defaultValue ty))).heap[B.heap.size]? = some (arrV b N (fun i => if i < j then .ref (B.heap.size + 1 + i) else .null)) := by
      rw [am_lay_push]
      exact am_grid_head
    have hr : (am_lay B (am_grid b b' B.heap.size N K (defaultValue ty) j) (N + j * K)).heap.size = B.heap.size + 1 + j := by
      rw [am_lay_size, am_grid_len]; omega
    refine ⟨_, ha, (by intro q; cases q), (by rw [arrV_size]; exact hjN), ?_, ?_⟩
    · show State.fitsSlot _ b .none j _ = true
      have hv : (am_lay B (am_grid b b' B.heap.size N K (defaultValue ty) j) (N + j * K)).vm.classes[b]? = some kb := hb
      simp [State.fitsSlot, State.slotType?, State.pushCell, hv, hkb, fits]
    · rw [hr, am_grid_turn]
      exact hQ _ _ _ ⟨by omega, h3, rfl⟩
  · rintro st d' acts' ⟨-, -, rfl⟩
    exact hq _ _
end

section
variable {p : Program} {l : Launch} {e : Env} {R : Room} {s : State} {m : MethodId} {args : Array Value} {below : List Frame} {meth : Method} {c : Code} {T : State} {locs : List Loc} {cells slots : Nat}
/-- cells laid behind the heap: where the method stands it stands on -/
theorem am_X_lay (X : Stand p l e R s m args below meth c T locs cells slots) {L : List Cell} {z : Nat} (hz : (L.map (·.slots.size)).sum = z) : Stand p l e R s m args below meth c (am_lay T L z) locs (cells + L.length) (slots + z) := by
  have h : T.sameButNew (am_lay T L z) [] L.length z := by
    obtain ⟨g₀, hg⟩ := Option.isSome_iff_exists.mp X.here.top
    obtain ⟨r, hr⟩ := State.topJava?_eq_some.mp hg
    obtain ⟨t, ht, -⟩ := State.frames_cons hr
    have h0 := (State.sameButNew.refl T ht).1
    have hd : (am_lay T L z).heap.toList.drop T.heap.size = L := by
      show (T.heap ++ L.toArray).toList.drop T.heap.size = L
      rw [Array.toList_append, ← Array.length_toList, List.drop_left]
    refine ⟨congrArg (fun x : State => { x with heap := T.heap ++ L.toArray, slotsUsed := T.slotsUsed + z }) h0, ?_, ?_, ?_, ?_, ?_⟩
    · rw [am_lay_size]; omega
    · rw [am_lay_size]; omega
    · rw [hd, hz]; rfl
    · rw [hd, hz]; exact Nat.le_refl _
    · intro a x hx
      exact ⟨x, (am_lay_old (Array.getElem?_eq_some_iff.mp hx).1).trans hx, rfl, rfl, fun _ _ => rfl⟩
  have hA : At (am_lay T L z) m c below := ⟨X.here.top, X.here.above, X.here.running, X.here.runnable, X.here.alone, X.here.code, X.here.plain⟩
  have h1 := X.moved hA X.tail rfl rfl (State.WarmedH.refl T) h
  rw [List.append_nil] at h1
  exact h1
/-- the instruction: new T[n][k] where there is room -/
theorem am_X_grid (X : Stand p l e R s m args below meth c T locs cells slots) (hexec : p.tables.exec = Jvm.exec) {own : String} {index : Nat} (hown : s.vm.findClass own = some m.cls)
    {b b' z : ClassId} {kb kb' : Class} {C : String} {ty : FieldType} (hlink : (Cond.classLink own index C).before args s = true) (hC : s.vm.findClass C = some b) (hb : s.vm.classes[b]? = some kb) (hkb : kb.kind = .array b' (.array ty)) (hb' : s.vm.classes[b']? = some kb') (hkb' : kb'.kind = .array z ty)
    {g : JFrame} (hg : g.method = m) (hdg : decode c.code g.pc = .ok (.multianewarray index 2, 4)) {n k : Int32} {rest : List Value} (hst : g.stack = .int k :: .int n :: rest)
    (hn : ¬ n < 0) (hk : ¬ k < 0) (hn1 : n.toNatClampNeg * componentBytes (.array ty) ≤ 536870912) (hn2 : n.toNatClampNeg ≤ 536870912) (hk1 : k.toNatClampNeg ≤ 536870912) (hk2 : k.toNatClampNeg * componentBytes ty ≤ 536870912)
    (hcells : cells + (1 + n.toNatClampNeg) ≤ R.cells) (hslots : slots + (n.toNatClampNeg + n.toNatClampNeg * k.toNatClampNeg) ≤ R.slots) :
    ∃ T1 : State, T1.heap = T.heap ++ (am_grid b b' T.heap.size n.toNatClampNeg k.toNatClampNeg (defaultValue ty) n.toNatClampNeg).toArray ∧ Stand p l e R s m args below meth c T1 locs (cells + 1 + n.toNatClampNeg) (slots + n.toNatClampNeg + n.toNatClampNeg * k.toNatClampNeg) ∧
      ∀ target, Steps p.tables e below (T1.setTop { g with pc := g.pc + 4, stack := .ref T.heap.size :: rest }) target → Steps p.tables e below (T.setTop g) target := by
  subst hg
  obtain ⟨b0, hb0, hcl⟩ := Cond.classLink_spec hown hlink e.platform (by rw [X.admits.platform])
  cases hC.symm.trans hb0
  obtain ⟨g1, w1, r1⟩ := State.classEntry (e := e) X.warmed hcl
  have hsz : (T.vm.noted g.method.cls index (.cls b)).classes.size ≤ T.vm.classes.size := by no_record
  generalize T.vm.noted g.method.cls index (.cls b) = w at g1 w1 r1 hsz
  have X1 := am_X_lay (X.noted w1) (am_grid_sum b b' T.heap.size n.toNatClampNeg k.toNatClampNeg (defaultValue ty) n.toNatClampNeg)
  rw [am_grid_len, Nat.add_comm n.toNatClampNeg 1, ← Nat.add_assoc, ← Nat.add_assoc] at X1
  refine ⟨_, rfl, X1, fun target ht => ?_⟩
  obtain ⟨room1, room2⟩ := X.roomAbove hcells hslots
  obtain ⟨kc, q1, e1⟩ := w1.alike.2.2 _ _ hb
  obtain ⟨kc', q2, e2⟩ := w1.alike.2.2 _ _ hb'
  have lim : ∀ x : Nat, x ≤ 536870912 → x ≤ e.platform.arrayLengthLimit := fun x hx => by rw [Launch.admits_arrayLengthLimit X.admits]; omega
  have mem : ∀ x : Nat, x ≤ 536870912 → x ≤ e.platform.maxHeapBytes := fun x hx => by rw [Launch.admits_maxHeapBytes X.admits]; exact hx
  refine Steps.instr (c := c) X.here ?_
  rw [hdg]
  show wpRun (p.tables.exec (.multianewarray index 2)) _ _ e (T.setTop g)
  rw [hexec]
  show wp (multianewarray.sem index 2) _ _ e false [] (T.setTop g)
  unfold multianewarray.sem
  rw [wp_bind', W.resolveClassAt_transfer (s := T.setTop g) (State.method?_setTop g X.here.top) g1 r1 hsz]
  show wp (Jvm.resolveClassAt index) _ _ e false [] ((T.setVm w).setTop g)
  have top : (T.setVm w).topJava?.isSome := X.here.top
  rw [W.resolveClassAt_ready (State.method?_setTop g top) r1]
  simp only [wp_bind', W.popN]
  rw [if_neg (by decide)]
  refine ⟨g, State.topJava?_setTop' _ top, [.int n, .int k], rest, rfl, hst, ?_⟩
  rw [State.setTop_setTop]
  simp only [List.mapM_cons, List.mapM_nil, wp_bind', wp_pure']
  refine am_wpGrid (B := (T.setVm w).setTop { g with stack := rest }) q1 (by rw [e1]; exact hkb) q2 (by rw [e2]; exact hkb') hn hk (lim _ hn2) (lim _ hk1) (mem _ hn1) (mem _ hk2) room1 room2 (fun d' acts' => ?_)
  simp only [wp_bind', W.mark, W.pushRef]
  rw [am_lay_top]
  refine ⟨_, State.topJava?_setTop' _ top, fun acts'' => ?_⟩
  rw [State.setTop_setTop, afterInstr_ok]
  exact ht
end
