/-! Arrays of arrays. -/
theorem am_arr_congr {c : ClassId} {N : Nat} {f g : Nat → Value} (h : ∀ j, j < N → f j = g j) : arrV c N f = arrV c N g := by
  unfold arrV
  congr 1
  apply Array.ext_getElem?
  intro j
  rw [Array.getElem?_ofFn, Array.getElem?_ofFn]
  by_cases hj : j < N
  · rw [dif_pos hj, dif_pos hj, h j hj]
  · rw [dif_neg hj, dif_neg hj]
theorem am_R.app {D : va_G} {cA : FieldType → ClassId} {S : Nat → Nat} {H0 H H' : Heap} {h h2 : am_H} (hR : am_R D am_cl cA S H0 h H) (hat : ∀ (j : Nat) (e : am_C), h2[j]? = some e → va_at D am_cl (H0.size + (h.length + j), am_cc cA S H0.size e) H') (z : H'.size = H.size + h2.length) (oq : ∀ q, q < H.size → H'[q]? = H[q]?) : am_R D am_cl cA S H0 (h ++ h2) H' := by
  refine ⟨by rw [z, hR.1, List.length_append]; omega, fun q hq => ?_, ?_⟩
  · rw [oq q (by have := hR.1; omega)]
    exact hR.2.1 q hq
  · rw [am_conc_app]
    refine va_P.app (hR.2.2.kept (fun k q hk => oq q.1 ((hR.2.2 k q hk).lt))) (fun k q hk => ?_)
    rw [List.getElem?_map, List.getElem?_zipIdx] at hk
    cases he : h2[k]? with
    | none => rw [he] at hk; simp at hk
    | some e =>
      rw [he] at hk
      simp at hk
      subst hk
      exact hat k e he
section
variable {lx : am_Lx} {mt : Nat → am_Mt} {own nm : String} {cc : ByteArray} {nL mc ms pc : Nat} {ret : Option FieldType}
theorem am_sd_newM {index : Nat} (hlk : Cond.classLink own index "[[I" ∈ am_G) (hdg : decode cc pc = .ok (.multianewarray index 2, 4)) : am_Sd lx mt own nm cc nL mc ms ret pc (am_newm mc ms) := by
  intro p l e R s m args below meth c D cA S H0 Qw K Q X Cx Ks Rs hX ls st h k z hT H locs lsA hR hS hl hk hz
  obtain ⟨hx, hb, hml, hown, hG, hE, hnm, hH0, hfr, hlo, hRc, hRs⟩ := Cx
  unfold am_newm at hT
  split at hT
  · next kk n r =>
    obtain ⟨h0, h0', h3, h4, h1, h2, hT⟩ := hT
    intro T eT X0
    have hac : Cond.arrayClass .int ∈ am_G := am_G_of (by decide +kernel) (by decide +kernel)
    have hC2 : s.vm.findClass "[[I" = some (cA (.array .int)) := (hE.1.2 3 (cA (.array .int), .array .int) rfl).2
    have hC1 : s.vm.findClass "[I" = some (cA .int) := (hE.1.2 0 (cA .int, .int) rfl).2
    obtain ⟨b', b, kb, e1, -, e3, e4, e5⟩ := arrayOverA_spec (va_AOA.use (A := args) hE.2.2.2.1)
    obtain ⟨b1, kb', z', f1, f2, f3⟩ := Cond.arrayClass_spec (hG _ hac)
    cases (show s.vm.findClass "[[I" = some b from e5).symm.trans hC2
    cases (show s.vm.findClass "[I" = some b' from e1).symm.trans hC1
    cases (show s.vm.findClass "[I" = some b1 from f1).symm.trans hC1
    obtain ⟨T1, eT1, X1, step⟩ := am_X_grid X0 hx hown (C := "[[I") (ty := .int) (hG _ hlk) hC2 e3 e4 f2 f3 (g := F0 m pc lsA ((Value.int kk :: Value.int n :: r).map (am_cv S H0.size))) rfl (by rw [hb]; exact hdg) rfl h0 h0' (by show _ * 4 ≤ _; omega) (by omega) (by omega) (by show _ * 4 ≤ _; omega) (by rw [hRc]; exact h1) (by rw [hRs]; exact h2)
    have hsz : T.heap.size = H0.size + h.length := by rw [eT]; exact hR.1
    have hold : ∀ q, q < H.size → T1.heap[q]? = H[q]? := fun q hq => by
      rw [eT1, eT]
      exact Array.getElem?_append_left hq
    have hnew : ∀ j, T1.heap[H0.size + (h.length + j)]? = (am_grid (cA (.array .int)) (cA .int) T.heap.size n.toNatClampNeg kk.toNatClampNeg (defaultValue .int) n.toNatClampNeg)[j]? := fun j => by
      have := am_lay_new T (am_grid (cA (.array .int)) (cA .int) T.heap.size n.toNatClampNeg kk.toNatClampNeg (defaultValue .int) n.toNatClampNeg) 0 j
      rw [hsz] at this
      rw [hsz, eT1, ← Nat.add_assoc]
      rw [hsz]
      exact this
    have hz1 : T1.heap.size = H.size + (1 + n.toNatClampNeg) := by
      have := am_lay_size T (am_grid (cA (.array .int)) (cA .int) T.heap.size n.toNatClampNeg kk.toNatClampNeg (defaultValue .int) n.toNatClampNeg) 0
      rw [am_grid_len] at this
      rw [eT1, Nat.add_comm 1, ← eT]
      exact this
    have hinn : ∀ j, j < n.toNatClampNeg → T1.heap[H0.size + (h.length + (j + 1))]? = some (arrV (cA .int) kk.toNatClampNeg (fun _ => .int 0)) := fun j hj => by
      rw [hnew, am_grid, List.getElem?_cons_succ, List.getElem?_replicate, if_pos hj]
      rfl
    have hout : T1.heap[H0.size + (h.length + 0)]? = some (arrV (cA (.array .int)) n.toNatClampNeg (fun j => .ref (H0.size + h.length + 1 + j))) := by
      rw [hnew, am_grid, List.getElem?_cons_zero, hsz]
      exact congrArg some (am_arr_congr (fun j hj => if_pos hj))
    rw [hsz] at step
    have hR1 := hR.app (h2 := .inl (.array .int, n.toNatClampNeg, .inr (.inr (.inr (.inr (fun i => if i < n.toNatClampNeg then some (h.length + 1 + i) else none))))) :: List.replicate n.toNatClampNeg (.inl (.int, kk.toNatClampNeg, .inl (fun _ => 0)))) (H' := T1.heap) (fun j ee he => ?_) (by rw [hz1, List.length_cons, List.length_replicate]; omega) hold
    · have g := hX _ _ _ _ _ _ hT T1.heap locs lsA hR1 (am_S_push (n := 1 + n.toNatClampNeg) hS hz1 hold) hl (by rw [hRc]; omega) (by rw [hRs]; omega)
      obtain ⟨t, a1, b1⟩ := g T1 rfl (by rw [show k + 1 + n.toNatClampNeg = k + 1 + n.toNatClampNeg from rfl]; exact X1)
      exact ⟨t, step t a1, b1⟩
    · cases j with
      | zero =>
        rw [List.getElem?_cons_zero] at he
        cases he
        refine hout.trans ?_
        refine (congrArg some (am_arr_congr (g := fun j => va_rf ((if j < n.toNatClampNeg then some (h.length + 1 + j) else none).map (fun k => H0.size + k))) (fun j hj => ?_))).trans rfl
        show _ = va_rf ((if j < n.toNatClampNeg then some (h.length + 1 + j) else none).map (fun k => H0.size + k))
        rw [if_pos hj]
        show Value.ref (H0.size + h.length + 1 + j) = Value.ref (H0.size + (h.length + 1 + j))
        rw [Nat.add_assoc, Nat.add_assoc, Nat.add_assoc]
      | succ j =>
        rw [List.getElem?_cons_succ, List.getElem?_replicate] at he
        split at he
        · next hj =>
          cases he
          exact hinn j hj
        · cases he
  · exact hT.elim
end
/-! The constants of text, and String.indexOf of one of them. -/
theorem am_decl {x : MethodName} {bytes : ByteArray} {n : Nat} {ret : Option FieldType} {A A' : Array Value} {U : State} (hc : (Cond.code x bytes n ret).before A U = true) (hi : (Cond.instanceMethod x).before A U = true) : (Cond.declares x).before A' U = true := by
  obtain ⟨mk, meth, hn, hm, hst, -⟩ := Cond.instanceMethod_spec hi
  obtain ⟨meth', c, h1, -, -, -, -, -, -, hsig⟩ := Cond.code_spec hn hc
  cases hm.symm.trans h1
  simp [Cond.before, Cond.holds, Cond.value, hn, hm, hst, hsig]
theorem am_text {S : Nat → Nat} {H0 : Heap} {U : State} (h : am_St S H0 U) (hH : ∀ q : Nat, q < H0.size → U.heap[q]? = H0[q]?) {i : Nat} (hi : i < 3) : ∃ arr : Cell,
    (∀ A : Array Value, A[0]? = some (.ref (S (i + 1))) → (Cond.exactly (.arg 0) "java/lang/String").before A U = true ∧ (Term.field (.arg 0) "java/lang/String" "value" "[B").eval A U none [] U = some (.ref (S (i + 4))) ∧ (Term.field (.arg 0) "java/lang/String" "coder" "B").eval A U none [] U = some (.int 0)) ∧ Jvm.Lib.Cold.StaticIs U "java/lang/String" "COMPACT_STRINGS" "Z" (.int 1) ∧ U.heap[S (i + 4)]? = some arr ∧ U.isArrayOf arr .byte ∧ arr.vm ≠ .unknown ∧ arr.slots.size = am_stl.getD i 0 ∧ ∀ j, j < arr.slots.size → arr.slots[j]? = some (.int ((am_stb.getD i []).getD j 0)) := by
  obtain ⟨-, -, -, hZ, hK, hsz, hSx⟩ := h
  obtain ⟨⟨cell, o1, o2, o3, o4⟩, ⟨cf, kf, fi, f, cell1, f1, f2, f3, f4, f5, -⟩, ⟨cg, kg, gi, g, cell2, g1, g2, g3, g4, g5, -⟩, ⟨arr, t1, t2, t3, t4, t5, t6, t7⟩⟩ := hK.1 i hi
  obtain ⟨cz, kz, zi, zf, za, zc, z1, z2, z3, z4, z5, z6, z7, z8⟩ := hZ
  cases o1.symm.trans f3
  cases o1.symm.trans g3
  obtain ⟨x1, k, x3, x4⟩ := hSx _ o3
  have hc := (hH _ (Nat.not_le.mp o4)).trans o1
  have harr := hsz i hi arr t1
  refine ⟨arr, fun A hA => ?_, ⟨cz, zi, kz, zf, za, zc, z1, z2, z3, z4, (hH _ (Nat.not_le.mp z8)).trans z5, (fun q => by rw [q] at z6; cases z6), z7⟩, (hH _ (Nat.not_le.mp t7)).trans t1, t2, t3, harr, fun j hj => t6 j (harr ▸ hj)⟩
  have hT : (Term.arg 0).eval A U none [] U = some (.ref (S (i + 1))) := hA
  refine ⟨?_, Term.field_intro g1 g2 hT hc g4 o2 (x1 _ _ (by simp) _ (am_fc.get g1)) g5, Term.field_intro f1 f2 hT hc f4 o2 (x1 _ _ (by simp) _ (am_fc.get f1)) f5⟩
  simp only [Cond.before, Cond.holds, Cond.value, hT, o3, hc, x3, o2, Option.bind_eq_bind, Option.bind_some]
  cases hk : k.kind with
  | ordinary => simp [x4 hk i hi _ o1]
  | _ => simp
theorem am_ixf_none {x : Int32} : ∀ (l : List Int32) (k : Nat), (∀ y ∈ l, y ≠ x) → am_ixf x l k = -1
  | [], _, _ => rfl
  | y :: r, k, h => by
    unfold am_ixf
    rw [if_neg (h y List.mem_cons_self)]
    exact am_ixf_none r (k + 1) (fun z hz => h z (List.mem_cons_of_mem _ hz))
theorem am_fi_congr {f g : Nat → Int32} {t : Int32} : ∀ (n lo : Nat), (∀ j, lo ≤ j → j < lo + n → f j = g j) → Jvm.Free.SL1IndexOf.Chr.firstIdx f t lo n = Jvm.Free.SL1IndexOf.Chr.firstIdx g t lo n
  | 0, _, _ => rfl
  | n + 1, lo, h => by
    unfold Jvm.Free.SL1IndexOf.Chr.firstIdx
    rw [h lo (Nat.le_refl _) (by omega), am_fi_congr n (lo + 1) (fun j h1 h2 => h j (by omega) (by omega))]
theorem am_ix_low : ∀ (i : Fin 3) (n : Fin 256), am_ixf (Int32.ofNat n.val) (am_txt (i.val + 1)) 0 = Jvm.Free.SL1IndexOf.Chr.firstIdx (fun j => (am_stb.getD i.val []).getD j 0) (Int32.ofNat n.val).toInt8.toInt32 0 (am_stl.getD i.val 0) := by decide +kernel
theorem am_ix_high : ∀ i : Fin 3, ∀ y ∈ am_txt (i.val + 1), y ≤ 255 := by decide +kernel
theorem am_ix_len : ∀ i : Fin 3, (0 : Int32) < (am_stl.getD i.val 0).toInt32 ∧ ((am_stl.getD i.val 0).toInt32).toNatClampNeg - (0 : Int32).toNatClampNeg = am_stl.getD i.val 0 := by decide +kernel
theorem am_ix_sm : ∀ i : Fin 3, am_stl.getD i.val 0 < 2 ^ 31 := by decide +kernel
theorem am_answer {arr : Cell} {i : Nat} (hi : i < 3) (hz : arr.slots.size = am_stl.getD i 0) (hs : ∀ j, j < arr.slots.size → arr.slots[j]? = some (.int ((am_stb.getD i []).getD j 0))) {x : Int32} (h0 : 0 ≤ x) : Jvm.Free.SL1IndexOf.Idx.answer arr x 0 arr.slots.size.toInt32 = am_ixf x (am_txt (i + 1)) 0 := by
  unfold Jvm.Free.SL1IndexOf.Idx.answer
  by_cases hx : x ≤ 255
  · have hc : Jvm.Free.SL1IndexOf.Can.can x ≠ 0 := by simp [Jvm.Free.SL1IndexOf.Can.can, h0, hx]
    rw [if_neg hc]
    have e1 : Jvm.Free.SL1IndexOf.Idx.lo 0 = 0 := by decide
    have e2 : Jvm.Free.SL1IndexOf.Idx.hi arr arr.slots.size.toInt32 = arr.slots.size.toInt32 := by unfold Jvm.Free.SL1IndexOf.Idx.hi; split <;> rfl
    rw [e1, e2, hz, if_pos (am_ix_len ⟨i, hi⟩).1, (am_ix_len ⟨i, hi⟩).2]
    have hx0 : (0 : Int) ≤ x.toInt := by simpa using Int32.le_iff_toInt_le.mp h0
    have hx1 : x.toInt ≤ 255 := by
      have := Int32.le_iff_toInt_le.mp hx
      rwa [show (255 : Int32).toInt = 255 from by decide] at this
    have hn : x.toNatClampNeg < 256 := by
      show x.toInt.toNat < 256
      omega
    have hxn : Int32.ofNat x.toNatClampNeg = x := Int32.ofNat_toNatClampNeg x h0
    have key := am_ix_low ⟨i, hi⟩ ⟨x.toNatClampNeg, hn⟩
    simp only [hxn] at key
    rw [key]
    refine am_fi_congr _ _ (fun j _ hj => ?_)
    unfold Jvm.Lib.StringLatin1.equals.intAt
    rw [hs j (by rw [hz]; simpa using hj)]
  · have hc : Jvm.Free.SL1IndexOf.Can.can x = 0 := by simp [Jvm.Free.SL1IndexOf.Can.can, hx]
    rw [if_pos hc, am_ixf_none (x := x) _ _ (fun y hy e => hx (e ▸ am_ix_high ⟨i, hi⟩ y hy))]
abbrev am_ixy : am_Mt := (⟨"java/lang/String", "indexOf", "(I)I"⟩, Jvm.Free.StrIndexOf.indexOf1B, 2, some .int, 0, 0)
theorem am_ixM (lx : am_Lx) (l : Launch) (D : va_G) (cA : FieldType → ClassId) (S : Nat → Nat) (H0 : Heap) (h : am_H) {i : Nat} (hi : i < 3) {u : UInt32} (hu : u.toNat = i + 1) {x : Int32} (h0 : 0 ≤ x) : Met l am_ixy.1 (am_ws am_ixy) { frames := 4, locals := 160 } (am_Pc lx D cA S H0 [.float u, .int x] h) (am_Qc lx D cA S H0 (fun v h' => v = some (.int (am_ixf x (am_txt (i + 1)) 0)) ∧ h' = h)) 0 0 (fun q => H0.size ≤ q) := by
  intro p e ha hc hk s m args below hf happ hp hK
  obtain ⟨eA, hR, hE⟩ := hp
  have eu : ([Value.float u, .int x].map (am_cv S H0.size)).toArray = #[.ref (S (i + 1)), .int x] := by
    show #[Value.ref (S u.toNat), .int x] = _
    rw [hu]
  rw [eu] at eA
  subst eA
  obtain ⟨a1, a2, a3, a4, a5, a6, a7, a8⟩ := (Spec.appliesLoose_iff hf).mp happ
  have hts := atoms_spec (ws := am_ws am_ixy) a8
  have hw : ∀ w ∈ am_G, ∀ A : Array Value, w.before A s = true := fun w hw A => word_at (State.WarmedH.refl s) (good_of_word (List.mem_filter.mp hw).2) (hts w (List.mem_cons_of_mem _ hw))
  have hb : ∀ w : Cond, w ∈ tables_1 → goodWord w = true → ∀ A : Array Value, w.before A s = true := fun w h1 h2 A => hw w (am_G_of h1 h2) A
  obtain ⟨arr, ht, hSt, hd, hof, hkn, hsz, hsl⟩ := am_text hE.2.2.2.2.2 hR.2.1 hi
  have t2 := ht #[.ref (S (i + 1)), .int x] rfl
  have t3 := ht #[.ref (S (i + 1)), .int x, .int 0] rfl
  have t1 := ht #[.ref (S (i + 1))] rfl
  have hini := hb (.initialized "java/lang/String") (by decide +kernel) (by decide +kernel)
  have fv := hb (.fieldLink "java/lang/String" 9 "java/lang/String" "value" "[B") (by decide +kernel) (by decide +kernel)
  have fc := hb (.fieldLink "java/lang/String" 15 "java/lang/String" "coder" "B") (by decide +kernel) (by decide +kernel)
  have fz := hb (.fieldLink "java/lang/String" 38 "java/lang/String" "COMPACT_STRINGS" "Z") (by decide +kernel) (by decide +kernel)
  have hw2 : ∀ A : Array Value, (Cond.code Jvm.Free.StrIndexOf.indexOf2N Jvm.Free.StrIndexOf.indexOf2B 3 (some .int)).before A s = true := hb _ (by decide +kernel) (by decide +kernel)
  have m633 := hb (.methodLink "java/lang/String" 633 Jvm.Free.StrIndexOf.indexOf2N) (by decide +kernel) (by decide +kernel)
  have m492 := hb (.methodLink "java/lang/String" 492 Jvm.Free.StrIndexOf.S2.IL) (by decide +kernel) (by decide +kernel)
  have m505 := hb (.methodLink "java/lang/String" 505 Jvm.Free.StrIndexOf.S2.LN) (by decide +kernel) (by decide +kernel)
  have m335 := hb (.methodLink "java/lang/String" 335 Jvm.Lib.Cold.coder.x) (by decide +kernel) (by decide +kernel)
  have m637 := hb (.methodLink "java/lang/String" 637 Jvm.Free.SL1IndexOf.indexOfN) (by decide +kernel) (by decide +kernel)
  have i2 := hb (.instanceMethod Jvm.Free.StrIndexOf.indexOf2N) (by decide +kernel) (by decide +kernel)
  have iI := hb (.instanceMethod Jvm.Free.StrIndexOf.S2.IL) (by decide +kernel) (by decide +kernel)
  have iL := hb (.instanceMethod Jvm.Free.StrIndexOf.S2.LN) (by decide +kernel) (by decide +kernel)
  have iC := hb (.instanceMethod Jvm.Lib.Cold.coder.x) (by decide +kernel) (by decide +kernel)
  have s2 := hb (.selects "java/lang/String" Jvm.Free.StrIndexOf.indexOf2N Jvm.Free.StrIndexOf.indexOf2N) (by decide +kernel) (by decide +kernel)
  have sI := hb (.selects "java/lang/String" Jvm.Free.StrIndexOf.S2.IL Jvm.Free.StrIndexOf.S2.IL) (by decide +kernel) (by decide +kernel)
  have sL := hb (.selects "java/lang/String" Jvm.Free.StrIndexOf.S2.LN Jvm.Free.StrIndexOf.S2.LN) (by decide +kernel) (by decide +kernel)
  have sC := hb (.selects "java/lang/String" Jvm.Lib.Cold.coder.x Jvm.Lib.Cold.coder.x) (by decide +kernel) (by decide +kernel)
  have cI := hb (.code Jvm.Free.StrIndexOf.S2.IL Jvm.Lib.String.isLatin1.code 1 (some .boolean)) (by decide +kernel) (by decide +kernel)
  have cL := hb (.code Jvm.Free.StrIndexOf.S2.LN Jvm.Lib.String.length.code 1 (some .int)) (by decide +kernel) (by decide +kernel)
  have cC := hb (.code Jvm.Lib.Cold.coder.x Jvm.Lib.String.coder.code 1 (some .byte)) (by decide +kernel) (by decide +kernel)
  have stX := hb (.static Jvm.Free.SL1IndexOf.indexOfN) (by decide +kernel) (by decide +kernel)
  have iniS := hb (.initialized Jvm.Free.SL1IndexOf.sl1) (by decide +kernel) (by decide +kernel)
  have tab : ∀ A : Array Value, Jvm.Free.SL1IndexOf.Idx.tab.before A s = true := fun A => by
    simp only [Jvm.Free.SL1IndexOf.Idx.tab, Jvm.Free.SL1IndexOf.Can.tab, Jvm.Free.SL1IndexOf.Chr.tab, Cond.before_and, Bool.and_eq_true]
    exact ⟨hb _ (by decide +kernel) (by decide +kernel) A, hb _ (by decide +kernel) (by decide +kernel) A, hb _ (by decide +kernel) (by decide +kernel) A, hb _ (by decide +kernel) (by decide +kernel) A, hb _ (by decide +kernel) (by decide +kernel) A, hb _ (by decide +kernel) (by decide +kernel) A, hb _ (by decide +kernel) (by decide +kernel) A, hb _ (by decide +kernel) (by decide +kernel) A, hb _ (by decide +kernel) (by decide +kernel) A, hb _ (by decide +kernel) (by decide +kernel) A, hb _ (by decide +kernel) (by decide +kernel) A, hb _ (by decide +kernel) (by decide +kernel) A, hb _ (by decide +kernel) (by decide +kernel) A, hb _ (by decide +kernel) (by decide +kernel) A⟩
  have d2 := am_decl (A' := #[.ref (S (i + 1)), .int x]) (hw2 #[]) (i2 #[])
  have dI := am_decl (A' := #[.ref (S (i + 1)), .int x, .int 0]) (cI #[]) (iI #[])
  have dL := am_decl (A' := #[.ref (S (i + 1)), .int x, .int 0]) (cL #[]) (iL #[])
  have dC := am_decl (A' := #[.ref (S (i + 1))]) (cC #[]) (iC #[])
  have pre1 : Jvm.Free.StrIndexOf.S1.spec.pre.before #[.ref (S (i + 1)), .int x] s = true := by
    simp only [Jvm.Free.StrIndexOf.S1.spec, Cond.before_and, Bool.and_eq_true]
    exact ⟨hts _ List.mem_cons_self, rfl, t2.1, m633 _, d2, s2 _, i2 _, hini _⟩
  have pre2 : Jvm.Free.StrIndexOf.S2.spec.pre.before #[.ref (S (i + 1)), .int x, .int 0] s = true := by
    simp only [Jvm.Free.StrIndexOf.S2.spec, Cond.before_and, Bool.and_eq_true]
    exact ⟨hw2 _, rfl, t3.1, m492 _, dI, sI _, iI _, fv _, m505 _, dL, sL _, iL _, m637 _, stX _, tab _, iniS _, hini _⟩
  have preI : Jvm.Lib.Cold.isLatin1.spec.pre.before #[.ref (S (i + 1))] s = true := by
    simp only [Jvm.Lib.Cold.isLatin1.spec, Cond.before_and, Bool.and_eq_true]
    exact ⟨cI _, rfl, fz _, fc _⟩
  have preL : Jvm.Lib.Cold.length.spec.pre.before #[.ref (S (i + 1))] s = true := by
    simp only [Jvm.Lib.Cold.length.spec, Cond.before_and, Bool.and_eq_true]
    exact ⟨cL _, rfl, t1.1, fv _, m335 _, dC, sC _, iC _, hini _⟩
  have preC : Jvm.Lib.Cold.coder.spec.pre.before #[.ref (S (i + 1))] s = true := by
    simp only [Jvm.Lib.Cold.coder.spec, Cond.before_and, Bool.and_eq_true]
    exact ⟨cC _, rfl, fz _, fc _⟩
  have hP2 : Jvm.Free.StrIndexOf.S2.P (S (i + 1)) (S (i + 4)) x 0 1 arr #[.ref (S (i + 1)), .int x, .int 0] s :=
    ⟨rfl, t3.2.1, preI, ⟨rfl, hSt, by decide, t1.2.2⟩, preL, ⟨rfl, t1.2.1, hd, hof, preC, rfl, hSt, by decide, t1.2.2⟩, hkn, by rw [hsz]; exact am_ix_sm ⟨i, hi⟩, fun j hj => by
      unfold Jvm.Lib.StringLatin1.equals.intAt
      rw [hsl j hj]⟩
  obtain ⟨n, o, h1, h2, h3, ⟨-, hW, hsame⟩, ho⟩ := Jvm.Free.StrIndexOf.S1.met l (S (i + 1)) (S (i + 4)) x 1 arr p e ha hc hk s m _ below hf ((Spec.appliesLoose_iff hf).mpr ⟨a1, a2, a3, a4, a5, a6, a7, pre1⟩) ⟨rfl, pre2, hP2⟩ trivial
  rw [am_answer hi hsz hsl h0] at ho
  have hN := hsame.sameButNew 0 0
  have hheap : (stepsAlone p.tables e n s).heap = s.heap := by
    have q := Jvm.Free.SL1IndexOf.heapEq0 hN
    exact q
  refine ⟨n, o, h1, h2, h3, ⟨⟨some (.int (am_ixf x (am_txt (i + 1)) 0)), h, ho, ⟨rfl, rfl⟩, by rw [hheap]; exact hR, hE.warm hW⟩, by rw [hheap]; exact Nat.le_refl _, fun q _ _ => by rw [hheap]⟩, [], ⟨⟨_, ho⟩, hW, hN⟩, fun q hq => by cases hq⟩
section
variable {lx : am_Lx} {mt : Nat → am_Mt} {own nm : String} {cc : ByteArray} {nL mc ms pc : Nat} {ret : Option FieldType}
theorem am_sd_ldcs1 (hdg : decode cc pc = .ok (.ldc 69, 2)) : am_Sd lx mt "SpeciesRounds$Reader" nm cc nL mc ms ret pc (am_ldcs 1) := by
  intro p l e R s m args below meth c D cA S H0 Qw K Q X Cx Ks Rs hX ls st h k z hT H locs lsA hR hS hl hk hz
  obtain ⟨hx, hb, hml, hown, hG, hE, hnm, hH0, hfr, hlo, hRc, hRs⟩ := Cx
  exact va_ldcS hx hb hown hE.2.2.2.2.2.1 hdg (hX _ _ _ _ _ _ hT H locs lsA hR hS hl hk hz)
theorem am_sd_ldcs2 (hdg : decode cc pc = .ok (.ldc 81, 2)) : am_Sd lx mt "SpeciesRounds$Reader" nm cc nL mc ms ret pc (am_ldcs 2) := by
  intro p l e R s m args below meth c D cA S H0 Qw K Q X Cx Ks Rs hX ls st h k z hT H locs lsA hR hS hl hk hz
  obtain ⟨hx, hb, hml, hown, hG, hE, hnm, hH0, hfr, hlo, hRc, hRs⟩ := Cx
  exact va_ldcS hx hb hown hE.2.2.2.2.2.2.1 hdg (hX _ _ _ _ _ _ hT H locs lsA hR hS hl hk hz)
theorem am_sd_ldcs3 (hdg : decode cc pc = .ok (.ldc 86, 2)) : am_Sd lx mt "SpeciesRounds$Reader" nm cc nL mc ms ret pc (am_ldcs 3) := by
  intro p l e R s m args below meth c D cA S H0 Qw K Q X Cx Ks Rs hX ls st h k z hT H locs lsA hR hS hl hk hz
  obtain ⟨hx, hb, hml, hown, hG, hE, hnm, hH0, hfr, hlo, hRc, hRs⟩ := Cx
  exact va_ldcS hx hb hown hE.2.2.2.2.2.2.2.1 hdg (hX _ _ _ _ _ _ hT H locs lsA hR hS hl hk hz)
theorem am_sd_ixof {index : Nat} (hlk : Cond.methodLink own index ⟨"java/lang/String", "indexOf", "(I)I"⟩ ∈ am_G) (hdg : decode cc pc = .ok (.invokevirtual index, 3)) : am_Sd lx mt own nm cc nL mc ms ret pc am_ixof := by
  intro p l e R s m args below meth c D cA S H0 Qw K Q X Cx Ks Rs hX ls st h k z hT H locs lsA hR hS hl hk hz
  obtain ⟨hx, hb, hml, hown, hG, hE, hnm, hH0, hfr, hlo, hRc, hRs⟩ := Cx
  unfold am_ixof at hT
  split at hT
  · next x u r =>
    obtain ⟨hu, ⟨h0, h1⟩, hre, hT⟩ := hT
    obtain ⟨j, hj, hju⟩ : ∃ j : Nat, j < 3 ∧ u.toNat = j + 1 := by
      rcases hu with rfl | rfl | rfl
      · exact ⟨0, by decide, rfl⟩
      · exact ⟨1, by decide, rfl⟩
      · exact ⟨2, by decide, rfl⟩
    rw [hju] at hT
    have hM := am_ixM lx l D cA S H0 h hj hju h0
    have eu : am_cv S H0.size (.float u) = .ref (S (j + 1)) := by
      show Value.ref (S u.toNat) = _
      rw [hju]
    have hcode : Cond.code am_ixy.1 am_ixy.2.1 am_ixy.2.2.1 am_ixy.2.2.2.1 ∈ am_G := am_G_of (by decide +kernel) (by decide +kernel)
    obtain ⟨cell, o1, o2, o3, o4⟩ := (hE.2.2.2.2.2.2.2.2.2.1.1 j hj).1
    show W p l e R s m args below meth c H locs k z Qw (F0 m pc lsA (.int x :: am_cv S H0.size (.float u) :: r.map (am_cv S H0.size)))
    rw [eu]
    refine am_after (va_runV (C := "java/lang/String") (As := [.int x]) (rest := r.map (am_cv S H0.size)) (n := 1) (b := S (j + 1)) ⟨hx, hb, hml, hown, hG⟩ hM ⟨⟨rfl, rfl, hfr, (by show 8 + (2 + 11) + 160 ≤ R.locals; omega), pay_in hG (am_good hcode), List.mem_cons_self, hG _ hcode, hG _ (am_G_of (by decide +kernel) (by decide +kernel)), ⟨by decide, by decide⟩, fun sig h => (by rw [show parseMethodDescriptor am_ixy.1.desc = some ⟨[.int], some .int⟩ from by decide +kernel] at h; cases h; rfl), hG _ hlk⟩, hG _ (am_G_of (by decide +kernel) (by decide +kernel)), hG _ (am_G_of (by decide +kernel) (by decide +kernel))⟩ ⟨am_blind, ⟨cell, (hR.2.1 _ (Nat.not_le.mp o4)).trans o1, o2, o3⟩, fun U hU hW => ⟨by rw [List.map_cons, eu]; rfl, by rw [hU]; exact hR, hE.warm hW⟩⟩ rfl rfl hl.1 rfl (lv_room (am_rest_cv hre)) hdg ⟨hk, hz⟩) hS (fun v h' H1 locs1 hq hR1 hS1 => ?_)
    obtain ⟨rfl, rfl⟩ := hq
    exact hX _ _ _ _ _ _ hT H1 locs1 lsA hR1 hS1 hl hk hz
  · exact hT.elim
end
