theorem am_eq {h : am_H} {a : Nat} {e0 e : am_C} (h0 : h[a]? = some e0) : (h.set a e)[a]? = some e := by
  rw [List.getElem?_set_self ((List.getElem?_eq_some_iff.mp h0).1)]
theorem am_ne {h : am_H} {a b : Nat} {e e' : am_C} (hne : a ≠ b) (hb : h[b]? = some e') : (h.set a e)[b]? = some e' := by
  rw [List.getElem?_set_ne hne]
  exact hb
theorem am_KA_in {lx : am_Lx} {d y : Nat} {As : List Value} {h : am_H} {Q : am_Q} (hy : y < 132) (hl : (am_ent As).length ≤ (am_mt y).2.2.1) (g : am_Go (am_KA lx d) (am_cd lx y) Q 0 (am_ini (am_mt y).2.2.1 As) [] h 0 0) : am_KA lx (d + 1) y As h Q := ⟨hy, hl, g⟩
/-- cells of a kept set stay -/
def am_fr (P : Nat → Prop) (h h' : am_H) : Prop := ∀ i, ¬ P i → h'[i]? = h[i]?
theorem am_fr.rf {P : Nat → Prop} {h : am_H} : am_fr P h h := fun _ _ => rfl
theorem am_fr.tr {P : Nat → Prop} {h h' h2 : am_H} (a : am_fr P h h') (b : am_fr P h' h2) : am_fr P h h2 := fun i hi => (b i hi).trans (a i hi)
theorem am_fr.put {P : Nat → Prop} {h h' : am_H} {a : Nat} {e : am_C} (g : am_fr P h h') (ha : P a) : am_fr P h (h'.set a e) := fun i hi => by
  rw [List.getElem?_set_ne (show a ≠ i from fun q => hi (by rw [← q]; exact ha))]
  exact g i hi
theorem am_fr.wk {P P' : Nat → Prop} {h h' : am_H} (g : am_fr P h h') (w : ∀ i, P i → P' i) : am_fr P' h h' := fun i hi => g i (fun q => hi (w i q))
theorem am_fr.at {P : Nat → Prop} {h h' : am_H} {i : Nat} {e : am_C} (g : am_fr P h h') (hi : ¬ P i) (he : h[i]? = some e) : h'[i]? = some e := (g i hi).trans he
section
variable {K : am_K} {cd : List (Nat × am_T)} {Q : am_Q} {pc pn : Nat} {ls : am_L} {st : List Value} {h : am_H} {c z : Nat}
theorem r_ialdN {a n j : Nat} {f : Nat → Int32} (G : am_GK K cd) (hf : am_fetch cd pc = am_iald) (hp : pc + 1 = pn) (ha : h[a]? = some (.inl (.int, n, .inl f))) (hj : j < n) (hn : n < 2 ^ 31) (k : am_Go K (am_fetch cd) Q pn ls (.int (f j) :: st) h c z) : am_Go K (am_fetch cd) Q pc ls (.int (nI j) :: .ref a :: st) h c z := by
  refine r_iald G hf hp ha (vp_in_nI hj hn) ?_
  rw [nI_clamp (by omega)]
  exact k
theorem r_caldN {a n j : Nat} {f : Nat → Int32} (G : am_GK K cd) (hf : am_fetch cd pc = am_cald) (hp : pc + 1 = pn) (ha : h[a]? = some (.inl (.char, n, .inl f))) (hj : j < n) (hn : n < 2 ^ 31) (k : am_Go K (am_fetch cd) Q pn ls (.int (f j) :: st) h c z) : am_Go K (am_fetch cd) Q pc ls (.int (nI j) :: .ref a :: st) h c z := by
  refine r_cald G hf hp ha (vp_in_nI hj hn) ?_
  rw [nI_clamp (by omega)]
  exact k
theorem r_laldN {a n j : Nat} {f : Nat → Int64} (G : am_GK K cd) (hf : am_fetch cd pc = am_lald) (hp : pc + 1 = pn) (ha : h[a]? = some (.inl (.long, n, .inr (.inl f)))) (hj : j < n) (hn : n < 2 ^ 31) (k : am_Go K (am_fetch cd) Q pn ls (.long (f j) :: st) h c z) : am_Go K (am_fetch cd) Q pc ls (.int (nI j) :: .ref a :: st) h c z := by
  refine r_lald G hf hp ha (vp_in_nI hj hn) ?_
  rw [nI_clamp (by omega)]
  exact k
theorem r_raldN {ty : FieldType} {a n b j : Nat} {f : Nat → Option Nat} (G : am_GK K cd) (hf : am_fetch cd pc = am_rald ty) (hp : pc + 1 = pn) (ha : h[a]? = some (.inl (ty, n, .inr (.inr (.inr (.inr f)))))) (hj : j < n) (hn : n < 2 ^ 31) (hb : f j = some b) (k : am_Go K (am_fetch cd) Q pn ls (.ref b :: st) h c z) : am_Go K (am_fetch cd) Q pc ls (.int (nI j) :: .ref a :: st) h c z := by
  refine r_rald G hf hp ha (vp_in_nI hj hn) (b := b) ?_ k
  rw [nI_clamp (by omega)]
  exact hb
theorem r_iastN {a n j : Nat} {f : Nat → Int32} {x : Int32} (G : am_GK K cd) (hf : am_fetch cd pc = am_iast) (hp : pc + 1 = pn) (ha : h[a]? = some (.inl (.int, n, .inl f))) (hj : j < n) (hn : n < 2 ^ 31) (k : am_Go K (am_fetch cd) Q pn ls st (h.set a (.inl (.int, n, .inl (upd f j x)))) c z) : am_Go K (am_fetch cd) Q pc ls (.int x :: .int (nI j) :: .ref a :: st) h c z := by
  refine r_iast G hf hp ha (vp_in_nI hj hn) ?_
  rw [nI_clamp (by omega)]
  exact k
theorem r_castN {a n j : Nat} {f : Nat → Int32} {x : Int32} (G : am_GK K cd) (hf : am_fetch cd pc = am_cast) (hp : pc + 1 = pn) (ha : h[a]? = some (.inl (.char, n, .inl f))) (hj : j < n) (hn : n < 2 ^ 31) (k : am_Go K (am_fetch cd) Q pn ls st (h.set a (.inl (.char, n, .inl (upd f j (vp_nar .char x))))) c z) : am_Go K (am_fetch cd) Q pc ls (.int x :: .int (nI j) :: .ref a :: st) h c z := by
  refine r_cast G hf hp ha (vp_in_nI hj hn) ?_
  rw [nI_clamp (by omega)]
  exact k
theorem r_lastN {a n j : Nat} {f : Nat → Int64} {x : Int64} (G : am_GK K cd) (hf : am_fetch cd pc = am_last) (hp : pc + 1 = pn) (ha : h[a]? = some (.inl (.long, n, .inr (.inl f)))) (hj : j < n) (hn : n < 2 ^ 31) (k : am_Go K (am_fetch cd) Q pn ls st (h.set a (.inl (.long, n, .inr (.inl (vp_updL f j x))))) c z) : am_Go K (am_fetch cd) Q pc ls (.long x :: .int (nI j) :: .ref a :: st) h c z := by
  refine r_last G hf hp ha (vp_in_nI hj hn) ?_
  rw [nI_clamp (by omega)]
  exact k
end
