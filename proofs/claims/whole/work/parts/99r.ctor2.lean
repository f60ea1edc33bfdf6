theorem r_newm {K : am_K} {cd : List (Nat × am_T)} {Q : am_Q} {pc pn : Nat} {ls : am_L} {st : List Value} {h : am_H} {c z : Nat} {mc ms : Nat} {n k : Int32} (G : am_GK K cd) (hf : am_fetch cd pc = am_newm mc ms) (hp : pc + 4 = pn) (h1 : ¬ n < 0) (h2 : ¬ k < 0) (h3 : n.toNatClampNeg ≤ 4096) (h4 : k.toNatClampNeg ≤ 4096) (h5 : c + (1 + n.toNatClampNeg) ≤ mc) (h6 : z + (n.toNatClampNeg + n.toNatClampNeg * k.toNatClampNeg) ≤ ms) (kk : am_Go K (am_fetch cd) Q pn ls (.ref h.length :: st) (h ++ (.inl (.array .int, n.toNatClampNeg, .inr (.inr (.inr (.inr (fun i => if i < n.toNatClampNeg then some (h.length + 1 + i) else none))))) :: List.replicate n.toNatClampNeg (.inl (.int, k.toNatClampNeg, .inl (fun _ => 0))))) (c + 1 + n.toNatClampNeg) (z + n.toNatClampNeg + n.toNatClampNeg * k.toNatClampNeg)) : am_Go K (am_fetch cd) Q pc ls (.int k :: .int n :: st) h c z := by
  subst hp
  refine am_go G hf ?_
  exact ⟨h1, h2, h3, h4, h5, h6, kk⟩
theorem ap_rp {h : am_H} {x e : am_C} {n i : Nat} (hi : i < n) : (h ++ x :: List.replicate n e)[h.length + 1 + i]? = some e := by
  rw [List.getElem?_append_right (by omega), show h.length + 1 + i - h.length = i + 1 by omega, List.getElem?_cons_succ, List.getElem?_replicate, if_pos hi]
section
variable {lx : am_Lx} {d : Nat} {h : am_H} {Q : am_Q}
set_option maxRecDepth 20000 in
theorem sp_76_10 (hd : 1 ≤ d) {g : Nat} (hn : h.length = g + 1) (ha : h[g]? = some (.inr (2, [.null, .null, .null, .int 0]))) (hq : ∀ h', h'.length = g + 14 → (∀ i, i < g → h'[i]? = h[i]?) → GrI g 10 h' 0 (fun _ => 0) (fun _ _ => 0) → Q none h') : am_KA lx d 76 [.ref g, .int 10] h Q := by
  obtain ⟨e, rfl⟩ : ∃ e, d = e + 1 := ⟨d - 1, by omega⟩
  have G : am_GK (am_KA lx e) cd_76 := ⟨am_KA_m lx e, cm_76⟩
  refine am_KA_in (by decide) (Nat.le_of_ble_eq_true rfl) ?_
  show am_Go (am_KA lx e) (am_fetch cd_76) Q 0 [some (.ref g), some (.int 10), none] [] h 0 0
  refine r_ra G (pn := 1) rfl rfl rfl ?_
  refine r_obj G (pn := 4) rfl rfl (Nat.le_of_ble_eq_true rfl) ?_
  refine r_ra G (pn := 5) rfl rfl rfl ?_
  refine r_il G (pn := 6) rfl rfl rfl ?_
  refine r_newi G (pn := 8) rfl rfl (by decide) (by decide) (Nat.le_of_ble_eq_true rfl) (Nat.le_of_ble_eq_true rfl) ?_
  rw [hn]
  refine r_putr G (pn := 11) rfl rfl (ap_lt ha) (Nat.le_of_ble_eq_true rfl) rfl rfl ?_
  show am_Go _ _ _ 11 [some (.ref g), some (.int 10), none] [] (((h ++ [aI 10 (fun _ => 0)]).set g (.inr (2, [.ref (g + 1), .null, .null, .int 0] ))) : am_H) _ _
  have A1 : (((h ++ [aI 10 (fun _ => 0)]).set g (.inr (2, [.ref (g + 1), .null, .null, .int 0]))) : am_H)[g]? = some (.inr (2, [.ref (g + 1), .null, .null, .int 0])) := am_eq (ap_lt ha)
  have L1 : (((h ++ [aI 10 (fun _ => 0)]).set g (.inr (2, [.ref (g + 1), .null, .null, .int 0]))) : am_H).length = g + 2 := by rw [List.length_set, List.length_append, hn]; rfl
  have F1 : ∀ i, i < g → (((h ++ [aI 10 (fun _ => 0)]).set g (.inr (2, [.ref (g + 1), .null, .null, .int 0]))) : am_H)[i]? = h[i]? := fun i h1 => ap_fr (by omega) (by omega)
  have C1 : (((h ++ [aI 10 (fun _ => 0)]).set g (.inr (2, [.ref (g + 1), .null, .null, .int 0]))) : am_H)[g + 1]? = some (aI 10 (fun _ => 0)) := by rw [List.getElem?_set_ne (by omega), ← hn]; exact ap_eq
  generalize (((h ++ [aI 10 (fun _ => 0)]).set g (.inr (2, [.ref (g + 1), .null, .null, .int 0]))) : am_H) = h1 at A1 L1 F1 C1
  refine r_ra G (pn := 12) rfl rfl rfl ?_
  refine r_il G (pn := 13) rfl rfl rfl ?_
  refine r_il G (pn := 14) rfl rfl rfl ?_
  refine r_newm G (pn := 18) rfl rfl (by decide) (by decide) (by decide) (by decide) (Nat.le_of_ble_eq_true rfl) (Nat.le_of_ble_eq_true rfl) ?_
  rw [L1]
  refine r_putr G (pn := 21) rfl rfl (ap_lt A1) (Nat.le_of_ble_eq_true rfl) rfl rfl ?_
  show am_Go _ _ _ 21 [some (.ref g), some (.int 10), none] [] (((h1 ++ (.inl (.array .int, 10, .inr (.inr (.inr (.inr (fun i => if i < 10 then some (g + 2 + 1 + i) else none))))) :: List.replicate 10 (aI 10 (fun _ => 0)))).set g (.inr (2, [.ref (g + 1), .ref (g + 2), .null, .int 0] ))) : am_H) _ _
  have A2 : (((h1 ++ (.inl (.array .int, 10, .inr (.inr (.inr (.inr (fun i => if i < 10 then some (g + 2 + 1 + i) else none))))) :: List.replicate 10 (aI 10 (fun _ => 0)))).set g (.inr (2, [.ref (g + 1), .ref (g + 2), .null, .int 0]))) : am_H)[g]? = some (.inr (2, [.ref (g + 1), .ref (g + 2), .null, .int 0])) := am_eq (ap_lt A1)
  have L2 : (((h1 ++ (.inl (.array .int, 10, .inr (.inr (.inr (.inr (fun i => if i < 10 then some (g + 2 + 1 + i) else none))))) :: List.replicate 10 (aI 10 (fun _ => 0)))).set g (.inr (2, [.ref (g + 1), .ref (g + 2), .null, .int 0]))) : am_H).length = g + 3 + 10 := by rw [List.length_set, List.length_append, L1, List.length_cons, List.length_replicate]
  have F2 : ∀ i, i < g → (((h1 ++ (.inl (.array .int, 10, .inr (.inr (.inr (.inr (fun i => if i < 10 then some (g + 2 + 1 + i) else none))))) :: List.replicate 10 (aI 10 (fun _ => 0)))).set g (.inr (2, [.ref (g + 1), .ref (g + 2), .null, .int 0]))) : am_H)[i]? = h[i]? := fun i h1 => (ap_fr (by omega) (by omega)).trans (F1 i h1)
  have C2 : (((h1 ++ (.inl (.array .int, 10, .inr (.inr (.inr (.inr (fun i => if i < 10 then some (g + 2 + 1 + i) else none))))) :: List.replicate 10 (aI 10 (fun _ => 0)))).set g (.inr (2, [.ref (g + 1), .ref (g + 2), .null, .int 0]))) : am_H)[g + 1]? = some (aI 10 (fun _ => 0)) := (ap_fr (by omega) (by omega)).trans C1
  have O2 : (((h1 ++ (.inl (.array .int, 10, .inr (.inr (.inr (.inr (fun i => if i < 10 then some (g + 2 + 1 + i) else none))))) :: List.replicate 10 (aI 10 (fun _ => 0)))).set g (.inr (2, [.ref (g + 1), .ref (g + 2), .null, .int 0]))) : am_H)[g + 2]? = some (.inl (.array .int, 10, .inr (.inr (.inr (.inr (fun i => if i < 10 then some (g + 2 + 1 + i) else none)))))) := by rw [List.getElem?_set_ne (by omega), ← L1]; exact ap_eq
  have R2 : ∀ i, i < 10 → (((h1 ++ (.inl (.array .int, 10, .inr (.inr (.inr (.inr (fun i => if i < 10 then some (g + 2 + 1 + i) else none))))) :: List.replicate 10 (aI 10 (fun _ => 0)))).set g (.inr (2, [.ref (g + 1), .ref (g + 2), .null, .int 0]))) : am_H)[g + 3 + i]? = some (aI 10 (fun _ => 0)) := fun i hi => by
    rw [List.getElem?_set_ne (by omega), show g + 3 + i = h1.length + 1 + i by omega]
    exact ap_rp hi
  generalize (((h1 ++ (.inl (.array .int, 10, .inr (.inr (.inr (.inr (fun i => if i < 10 then some (g + 2 + 1 + i) else none))))) :: List.replicate 10 (aI 10 (fun _ => 0)))).set g (.inr (2, [.ref (g + 1), .ref (g + 2), .null, .int 0]))) : am_H) = h2 at A2 L2 F2 C2 O2 R2
  refine r_ra G (pn := 22) rfl rfl rfl ?_
  refine r_il G (pn := 23) rfl rfl rfl ?_
  refine r_newi G (pn := 25) rfl rfl (by decide) (by decide) (Nat.le_of_ble_eq_true rfl) (Nat.le_of_ble_eq_true rfl) ?_
  rw [L2]
  refine r_putr G (pn := 28) rfl rfl (ap_lt A2) (Nat.le_of_ble_eq_true rfl) rfl rfl ?_
  show am_Go _ _ _ 28 [some (.ref g), some (.int 10), none] [] (((h2 ++ [aI 10 (fun _ => 0)]).set g (.inr (2, [.ref (g + 1), .ref (g + 2), .ref (g + 3 + 10), .int 0] ))) : am_H) _ _
  have A3 : (((h2 ++ [aI 10 (fun _ => 0)]).set g (.inr (2, [.ref (g + 1), .ref (g + 2), .ref (g + 3 + 10), .int 0]))) : am_H)[g]? = some (.inr (2, [.ref (g + 1), .ref (g + 2), .ref (g + 3 + 10), .int 0])) := am_eq (ap_lt A2)
  have L3 : (((h2 ++ [aI 10 (fun _ => 0)]).set g (.inr (2, [.ref (g + 1), .ref (g + 2), .ref (g + 3 + 10), .int 0]))) : am_H).length = g + 14 := by rw [List.length_set, List.length_append, L2]; rfl
  have F3 : ∀ i, i < g → (((h2 ++ [aI 10 (fun _ => 0)]).set g (.inr (2, [.ref (g + 1), .ref (g + 2), .ref (g + 3 + 10), .int 0]))) : am_H)[i]? = h[i]? := fun i h1 => (ap_fr (by omega) (by omega)).trans (F2 i h1)
  have C3 : (((h2 ++ [aI 10 (fun _ => 0)]).set g (.inr (2, [.ref (g + 1), .ref (g + 2), .ref (g + 3 + 10), .int 0]))) : am_H)[g + 1]? = some (aI 10 (fun _ => 0)) := (ap_fr (by omega) (by omega)).trans C2
  have O3 : (((h2 ++ [aI 10 (fun _ => 0)]).set g (.inr (2, [.ref (g + 1), .ref (g + 2), .ref (g + 3 + 10), .int 0]))) : am_H)[g + 2]? = some (.inl (.array .int, 10, .inr (.inr (.inr (.inr (fun i => if i < 10 then some (g + 2 + 1 + i) else none)))))) := (ap_fr (by omega) (by omega)).trans O2
  have R3 : ∀ i, i < 10 → (((h2 ++ [aI 10 (fun _ => 0)]).set g (.inr (2, [.ref (g + 1), .ref (g + 2), .ref (g + 3 + 10), .int 0]))) : am_H)[g + 3 + i]? = some (aI 10 (fun _ => 0)) := fun i hi => (ap_fr (by omega) (by omega)).trans (R2 i hi)
  have E3 : (((h2 ++ [aI 10 (fun _ => 0)]).set g (.inr (2, [.ref (g + 1), .ref (g + 2), .ref (g + 3 + 10), .int 0]))) : am_H)[g + 3 + 10]? = some (aI 10 (fun _ => 0)) := by rw [List.getElem?_set_ne (by omega), ← L2]; exact ap_eq
  generalize (((h2 ++ [aI 10 (fun _ => 0)]).set g (.inr (2, [.ref (g + 1), .ref (g + 2), .ref (g + 3 + 10), .int 0]))) : am_H) = h3 at A3 L3 F3 C3 O3 R3 E3
  refine r_ic G (pn := 29) rfl rfl  ?_
  refine r_is G (pn := 30) rfl rfl (Nat.le_of_ble_eq_true rfl) ?_
  have lp : ∀ (z k : Nat) (h' : am_H) (f : Nat → Int32) (c y : Nat), k + z = 10 → am_fr (fun i => i = g + 3 + 10) h3 h' → h'.length = g + 14 → h'[g + 3 + 10]? = some (aI 10 f) → (∀ p, p < k → f p = nI p) → am_Go (am_KA lx e) (am_fetch cd_76) Q 30 [some (.ref g), some (.int 10), some (.int (nI k))] [] h' c y := by
    intro z
    induction z with
    | zero =>
      intro k h' f c y hk hf hl ke gf
      obtain rfl : k = 10 := by omega
      refine r_il G (pn := 31) rfl rfl rfl ?_
      refine r_il G (pn := 32) rfl rfl rfl ?_
      refine r_if2 G (pn := 35) rfl rfl (fun c32 => ?_) (fun c32 => ?_)
      rotate_left
      · exact absurd (by decide) c32
      exact r_vret G rfl (hq h' hl (fun i hi => (hf i (by omega)).trans (F3 i hi)) ⟨hf.at (by omega) A3, ⟨_, hf.at (by omega) C3, fun i hi => absurd hi (Nat.not_lt_zero i)⟩, ⟨_, hf.at (by omega) O3, fun i hi => if_pos hi⟩, fun i hi => ⟨_, hf.at (by omega) (R3 i hi), rfl, fun j hj => absurd hj (Nat.not_lt_zero i)⟩, ⟨f, ke, gf⟩⟩)
    | succ z ih =>
      intro k h' f c y hk hf hl ke gf
      have kA := hf.at (by omega) A3
      refine r_il G (pn := 31) rfl rfl rfl ?_
      refine r_il G (pn := 32) rfl rfl rfl ?_
      refine r_if2 G (pn := 35) rfl rfl (fun c32 => ?_) (fun c32 => ?_)
      · exact absurd ((nI_leI (a := 10) (by omega) (by omega)).mp c32) (by omega)
      refine r_ra G (pn := 36) rfl rfl rfl ?_
      refine r_get G (pn := 39) rfl rfl kA rfl ?_
      refine r_il G (pn := 40) rfl rfl rfl ?_
      refine r_il G (pn := 41) rfl rfl rfl ?_
      refine r_iastN G (pn := 42) rfl rfl ke (by omega) (by omega) ?_
      refine r_inc G (pn := 45) rfl rfl rfl (Nat.le_of_ble_eq_true rfl) ?_
      refine r_goto G rfl ?_
      rw [nI_1]
      refine ih (k + 1) _ _ _ _ (by omega) (hf.put rfl) (by rw [List.length_set]; exact hl) (am_eq ke) (fun p hp => ?_)
      by_cases w : p = k
      · rw [w, pk_us]
      · rw [pk_un w]; exact gf p (by omega)
  exact lp 10 0 h3 _ _ _ (by omega) am_fr.rf L3 E3 (fun p hp => absurd hp (Nat.not_lt_zero p))
set_option maxRecDepth 20000 in
theorem sp_76_24 (hd : 1 ≤ d) {g : Nat} (hn : h.length = g + 1) (ha : h[g]? = some (.inr (2, [.null, .null, .null, .int 0]))) (hq : ∀ h', h'.length = g + 28 → (∀ i, i < g → h'[i]? = h[i]?) → GrI g 24 h' 0 (fun _ => 0) (fun _ _ => 0) → Q none h') : am_KA lx d 76 [.ref g, .int 24] h Q := by
  obtain ⟨e, rfl⟩ : ∃ e, d = e + 1 := ⟨d - 1, by omega⟩
  have G : am_GK (am_KA lx e) cd_76 := ⟨am_KA_m lx e, cm_76⟩
  refine am_KA_in (by decide) (Nat.le_of_ble_eq_true rfl) ?_
  show am_Go (am_KA lx e) (am_fetch cd_76) Q 0 [some (.ref g), some (.int 24), none] [] h 0 0
  refine r_ra G (pn := 1) rfl rfl rfl ?_
  refine r_obj G (pn := 4) rfl rfl (Nat.le_of_ble_eq_true rfl) ?_
  refine r_ra G (pn := 5) rfl rfl rfl ?_
  refine r_il G (pn := 6) rfl rfl rfl ?_
  refine r_newi G (pn := 8) rfl rfl (by decide) (by decide) (Nat.le_of_ble_eq_true rfl) (Nat.le_of_ble_eq_true rfl) ?_
  rw [hn]
  refine r_putr G (pn := 11) rfl rfl (ap_lt ha) (Nat.le_of_ble_eq_true rfl) rfl rfl ?_
  show am_Go _ _ _ 11 [some (.ref g), some (.int 24), none] [] (((h ++ [aI 24 (fun _ => 0)]).set g (.inr (2, [.ref (g + 1), .null, .null, .int 0] ))) : am_H) _ _
  have A1 : (((h ++ [aI 24 (fun _ => 0)]).set g (.inr (2, [.ref (g + 1), .null, .null, .int 0]))) : am_H)[g]? = some (.inr (2, [.ref (g + 1), .null, .null, .int 0])) := am_eq (ap_lt ha)
  have L1 : (((h ++ [aI 24 (fun _ => 0)]).set g (.inr (2, [.ref (g + 1), .null, .null, .int 0]))) : am_H).length = g + 2 := by rw [List.length_set, List.length_append, hn]; rfl
  have F1 : ∀ i, i < g → (((h ++ [aI 24 (fun _ => 0)]).set g (.inr (2, [.ref (g + 1), .null, .null, .int 0]))) : am_H)[i]? = h[i]? := fun i h1 => ap_fr (by omega) (by omega)
  have C1 : (((h ++ [aI 24 (fun _ => 0)]).set g (.inr (2, [.ref (g + 1), .null, .null, .int 0]))) : am_H)[g + 1]? = some (aI 24 (fun _ => 0)) := by rw [List.getElem?_set_ne (by omega), ← hn]; exact ap_eq
  generalize (((h ++ [aI 24 (fun _ => 0)]).set g (.inr (2, [.ref (g + 1), .null, .null, .int 0]))) : am_H) = h1 at A1 L1 F1 C1
  refine r_ra G (pn := 12) rfl rfl rfl ?_
  refine r_il G (pn := 13) rfl rfl rfl ?_
  refine r_il G (pn := 14) rfl rfl rfl ?_
  refine r_newm G (pn := 18) rfl rfl (by decide) (by decide) (by decide) (by decide) (Nat.le_of_ble_eq_true rfl) (Nat.le_of_ble_eq_true rfl) ?_
  rw [L1]
  refine r_putr G (pn := 21) rfl rfl (ap_lt A1) (Nat.le_of_ble_eq_true rfl) rfl rfl ?_
  show am_Go _ _ _ 21 [some (.ref g), some (.int 24), none] [] (((h1 ++ (.inl (.array .int, 24, .inr (.inr (.inr (.inr (fun i => if i < 24 then some (g + 2 + 1 + i) else none))))) :: List.replicate 24 (aI 24 (fun _ => 0)))).set g (.inr (2, [.ref (g + 1), .ref (g + 2), .null, .int 0] ))) : am_H) _ _
  have A2 : (((h1 ++ (.inl (.array .int, 24, .inr (.inr (.inr (.inr (fun i => if i < 24 then some (g + 2 + 1 + i) else none))))) :: List.replicate 24 (aI 24 (fun _ => 0)))).set g (.inr (2, [.ref (g + 1), .ref (g + 2), .null, .int 0]))) : am_H)[g]? = some (.inr (2, [.ref (g + 1), .ref (g + 2), .null, .int 0])) := am_eq (ap_lt A1)
  have L2 : (((h1 ++ (.inl (.array .int, 24, .inr (.inr (.inr (.inr (fun i => if i < 24 then some (g + 2 + 1 + i) else none))))) :: List.replicate 24 (aI 24 (fun _ => 0)))).set g (.inr (2, [.ref (g + 1), .ref (g + 2), .null, .int 0]))) : am_H).length = g + 3 + 24 := by rw [List.length_set, List.length_append, L1, List.length_cons, List.length_replicate]
  have F2 : ∀ i, i < g → (((h1 ++ (.inl (.array .int, 24, .inr (.inr (.inr (.inr (fun i => if i < 24 then some (g + 2 + 1 + i) else none))))) :: List.replicate 24 (aI 24 (fun _ => 0)))).set g (.inr (2, [.ref (g + 1), .ref (g + 2), .null, .int 0]))) : am_H)[i]? = h[i]? := fun i h1 => (ap_fr (by omega) (by omega)).trans (F1 i h1)
  have C2 : (((h1 ++ (.inl (.array .int, 24, .inr (.inr (.inr (.inr (fun i => if i < 24 then some (g + 2 + 1 + i) else none))))) :: List.replicate 24 (aI 24 (fun _ => 0)))).set g (.inr (2, [.ref (g + 1), .ref (g + 2), .null, .int 0]))) : am_H)[g + 1]? = some (aI 24 (fun _ => 0)) := (ap_fr (by omega) (by omega)).trans C1
  have O2 : (((h1 ++ (.inl (.array .int, 24, .inr (.inr (.inr (.inr (fun i => if i < 24 then some (g + 2 + 1 + i) else none))))) :: List.replicate 24 (aI 24 (fun _ => 0)))).set g (.inr (2, [.ref (g + 1), .ref (g + 2), .null, .int 0]))) : am_H)[g + 2]? = some (.inl (.array .int, 24, .inr (.inr (.inr (.inr (fun i => if i < 24 then some (g + 2 + 1 + i) else none)))))) := by rw [List.getElem?_set_ne (by omega), ← L1]; exact ap_eq
  have R2 : ∀ i, i < 24 → (((h1 ++ (.inl (.array .int, 24, .inr (.inr (.inr (.inr (fun i => if i < 24 then some (g + 2 + 1 + i) else none))))) :: List.replicate 24 (aI 24 (fun _ => 0)))).set g (.inr (2, [.ref (g + 1), .ref (g + 2), .null, .int 0]))) : am_H)[g + 3 + i]? = some (aI 24 (fun _ => 0)) := fun i hi => by
    rw [List.getElem?_set_ne (by omega), show g + 3 + i = h1.length + 1 + i by omega]
    exact ap_rp hi
  generalize (((h1 ++ (.inl (.array .int, 24, .inr (.inr (.inr (.inr (fun i => if i < 24 then some (g + 2 + 1 + i) else none))))) :: List.replicate 24 (aI 24 (fun _ => 0)))).set g (.inr (2, [.ref (g + 1), .ref (g + 2), .null, .int 0]))) : am_H) = h2 at A2 L2 F2 C2 O2 R2
  refine r_ra G (pn := 22) rfl rfl rfl ?_
  refine r_il G (pn := 23) rfl rfl rfl ?_
  refine r_newi G (pn := 25) rfl rfl (by decide) (by decide) (Nat.le_of_ble_eq_true rfl) (Nat.le_of_ble_eq_true rfl) ?_
  rw [L2]
  refine r_putr G (pn := 28) rfl rfl (ap_lt A2) (Nat.le_of_ble_eq_true rfl) rfl rfl ?_
  show am_Go _ _ _ 28 [some (.ref g), some (.int 24), none] [] (((h2 ++ [aI 24 (fun _ => 0)]).set g (.inr (2, [.ref (g + 1), .ref (g + 2), .ref (g + 3 + 24), .int 0] ))) : am_H) _ _
  have A3 : (((h2 ++ [aI 24 (fun _ => 0)]).set g (.inr (2, [.ref (g + 1), .ref (g + 2), .ref (g + 3 + 24), .int 0]))) : am_H)[g]? = some (.inr (2, [.ref (g + 1), .ref (g + 2), .ref (g + 3 + 24), .int 0])) := am_eq (ap_lt A2)
  have L3 : (((h2 ++ [aI 24 (fun _ => 0)]).set g (.inr (2, [.ref (g + 1), .ref (g + 2), .ref (g + 3 + 24), .int 0]))) : am_H).length = g + 28 := by rw [List.length_set, List.length_append, L2]; rfl
  have F3 : ∀ i, i < g → (((h2 ++ [aI 24 (fun _ => 0)]).set g (.inr (2, [.ref (g + 1), .ref (g + 2), .ref (g + 3 + 24), .int 0]))) : am_H)[i]? = h[i]? := fun i h1 => (ap_fr (by omega) (by omega)).trans (F2 i h1)
  have C3 : (((h2 ++ [aI 24 (fun _ => 0)]).set g (.inr (2, [.ref (g + 1), .ref (g + 2), .ref (g + 3 + 24), .int 0]))) : am_H)[g + 1]? = some (aI 24 (fun _ => 0)) := (ap_fr (by omega) (by omega)).trans C2
  have O3 : (((h2 ++ [aI 24 (fun _ => 0)]).set g (.inr (2, [.ref (g + 1), .ref (g + 2), .ref (g + 3 + 24), .int 0]))) : am_H)[g + 2]? = some (.inl (.array .int, 24, .inr (.inr (.inr (.inr (fun i => if i < 24 then some (g + 2 + 1 + i) else none)))))) := (ap_fr (by omega) (by omega)).trans O2
  have R3 : ∀ i, i < 24 → (((h2 ++ [aI 24 (fun _ => 0)]).set g (.inr (2, [.ref (g + 1), .ref (g + 2), .ref (g + 3 + 24), .int 0]))) : am_H)[g + 3 + i]? = some (aI 24 (fun _ => 0)) := fun i hi => (ap_fr (by omega) (by omega)).trans (R2 i hi)
  have E3 : (((h2 ++ [aI 24 (fun _ => 0)]).set g (.inr (2, [.ref (g + 1), .ref (g + 2), .ref (g + 3 + 24), .int 0]))) : am_H)[g + 3 + 24]? = some (aI 24 (fun _ => 0)) := by rw [List.getElem?_set_ne (by omega), ← L2]; exact ap_eq
  generalize (((h2 ++ [aI 24 (fun _ => 0)]).set g (.inr (2, [.ref (g + 1), .ref (g + 2), .ref (g + 3 + 24), .int 0]))) : am_H) = h3 at A3 L3 F3 C3 O3 R3 E3
  refine r_ic G (pn := 29) rfl rfl  ?_
  refine r_is G (pn := 30) rfl rfl (Nat.le_of_ble_eq_true rfl) ?_
  have lp : ∀ (z k : Nat) (h' : am_H) (f : Nat → Int32) (c y : Nat), k + z = 24 → am_fr (fun i => i = g + 3 + 24) h3 h' → h'.length = g + 28 → h'[g + 3 + 24]? = some (aI 24 f) → (∀ p, p < k → f p = nI p) → am_Go (am_KA lx e) (am_fetch cd_76) Q 30 [some (.ref g), some (.int 24), some (.int (nI k))] [] h' c y := by
    intro z
    induction z with
    | zero =>
      intro k h' f c y hk hf hl ke gf
      obtain rfl : k = 24 := by omega
      refine r_il G (pn := 31) rfl rfl rfl ?_
      refine r_il G (pn := 32) rfl rfl rfl ?_
      refine r_if2 G (pn := 35) rfl rfl (fun c32 => ?_) (fun c32 => ?_)
      rotate_left
      · exact absurd (by decide) c32
      exact r_vret G rfl (hq h' hl (fun i hi => (hf i (by omega)).trans (F3 i hi)) ⟨hf.at (by omega) A3, ⟨_, hf.at (by omega) C3, fun i hi => absurd hi (Nat.not_lt_zero i)⟩, ⟨_, hf.at (by omega) O3, fun i hi => if_pos hi⟩, fun i hi => ⟨_, hf.at (by omega) (R3 i hi), rfl, fun j hj => absurd hj (Nat.not_lt_zero i)⟩, ⟨f, ke, gf⟩⟩)
    | succ z ih =>
      intro k h' f c y hk hf hl ke gf
      have kA := hf.at (by omega) A3
      refine r_il G (pn := 31) rfl rfl rfl ?_
      refine r_il G (pn := 32) rfl rfl rfl ?_
      refine r_if2 G (pn := 35) rfl rfl (fun c32 => ?_) (fun c32 => ?_)
      · exact absurd ((nI_leI (a := 24) (by omega) (by omega)).mp c32) (by omega)
      refine r_ra G (pn := 36) rfl rfl rfl ?_
      refine r_get G (pn := 39) rfl rfl kA rfl ?_
      refine r_il G (pn := 40) rfl rfl rfl ?_
      refine r_il G (pn := 41) rfl rfl rfl ?_
      refine r_iastN G (pn := 42) rfl rfl ke (by omega) (by omega) ?_
      refine r_inc G (pn := 45) rfl rfl rfl (Nat.le_of_ble_eq_true rfl) ?_
      refine r_goto G rfl ?_
      rw [nI_1]
      refine ih (k + 1) _ _ _ _ (by omega) (hf.put rfl) (by rw [List.length_set]; exact hl) (am_eq ke) (fun p hp => ?_)
      by_cases w : p = k
      · rw [w, pk_us]
      · rw [pk_un w]; exact gf p (by omega)
  exact lp 24 0 h3 _ _ _ (by omega) am_fr.rf L3 E3 (fun p hp => absurd hp (Nat.not_lt_zero p))
theorem gr_same {g N n : Nat} {h h' : am_H} {cd : Nat → Nat} {od : Nat → Nat → Nat} (hI : GrI g N h n cd od) (e : ∀ i, g ≤ i → i ≤ g + 3 + N → h'[i]? = h[i]?) : GrI g N h' n cd od := by
  obtain ⟨h1, ⟨f2, h2, g2⟩, ⟨r3, h3, g3⟩, h4, ⟨f5, h5, g5⟩⟩ := hI
  refine ⟨(e _ (by omega) (by omega)).trans h1, ⟨f2, (e _ (by omega) (by omega)).trans h2, g2⟩, ⟨r3, (e _ (by omega) (by omega)).trans h3, g3⟩, fun i hi => ?_, ⟨f5, (e _ (by omega) (by omega)).trans h5, g5⟩⟩
  obtain ⟨f, a, b⟩ := h4 i hi
  exact ⟨f, (e _ (by omega) (by omega)).trans a, b⟩
theorem sp_90 (hd : 2 ≤ d) {a : Nat} (hn : h.length = a + 1) (ha : h[a]? = some (.inr (5, [.null, .int 0]))) (hq : ∀ h', h'.length = a + 15 → (∀ i, i < a → h'[i]? = h[i]?) → h'[a]? = some (.inr (5, [.ref (a + 1), .int 0])) → GrI (a + 1) 10 h' 0 (fun _ => 0) (fun _ _ => 0) → Q none h') : am_KA lx d 90 [.ref a] h Q := by
  obtain ⟨e, rfl⟩ : ∃ e, d = e + 1 := ⟨d - 1, by omega⟩
  have G : am_GK (am_KA lx e) cd_90 := ⟨am_KA_m lx e, cm_90⟩
  refine am_KA_in (by decide) (Nat.le_of_ble_eq_true rfl) ?_
  show am_Go (am_KA lx e) (am_fetch cd_90) Q 0 [some (.ref a)] [] h 0 0
  refine r_ra G (pn := 1) rfl rfl rfl ?_
  refine r_obj G (pn := 4) rfl rfl (Nat.le_of_ble_eq_true rfl) ?_
  refine r_ra G (pn := 5) rfl rfl rfl ?_
  refine r_new G (pn := 8) rfl rfl (Nat.le_of_ble_eq_true rfl) (Nat.le_of_ble_eq_true rfl) ?_
  refine r_dup G (pn := 9) rfl rfl rfl ?_
  refine r_ic G (pn := 11) rfl rfl  ?_
  rw [hn]
  have ha1 : (h ++ [.inr (2, [.null, .null, .null, .int 0])] : am_H)[a]? = some (.inr (5, [.null, .int 0])) := ap_lt ha
  have hg1 : (h ++ [.inr (2, [.null, .null, .null, .int 0])] : am_H)[a + 1]? = some (.inr (2, [.null, .null, .null, .int 0])) := by rw [← hn]; exact ap_eq
  have hl1 : (h ++ [.inr (2, [.null, .null, .null, .int 0])] : am_H).length = a + 1 + 1 := by rw [List.length_append, hn]; rfl
  have hf1 : ∀ i, i < a → (h ++ [.inr (2, [.null, .null, .null, .int 0])] : am_H)[i]? = h[i]? := fun i hi => List.getElem?_append_left (by omega)
  generalize (h ++ [.inr (2, [.null, .null, .null, .int 0])] : am_H) = h1 at ha1 hg1 hl1 hf1
  refine r_inm2 G (pn := 14) rfl rfl (Nat.le_of_ble_eq_true rfl) (Nat.le_of_ble_eq_true rfl) (Nat.le_of_ble_eq_true rfl) (sp_76_10 (by omega) hl1 hg1 (fun h2 l2 f2 g2 => ?_))
  show am_Go _ _ _ 14 [some (.ref a)] [.ref (a + 1), .ref a] h2 _ _
  have a2 : h2[a]? = some (.inr (5, [.null, .int 0])) := (f2 a (by omega)).trans ha1
  refine r_putr G (pn := 17) rfl rfl a2 (Nat.le_of_ble_eq_true rfl) rfl rfl ?_
  have q3 : am_fr (fun i => i = a) h2 (h2.set a (.inr (5, [.ref (a + 1), .int 0]))) := am_fr.rf.put rfl
  exact r_vret G rfl (hq _ (by rw [List.length_set]; exact l2) (fun i hi => (q3 i (by omega)).trans ((f2 i (by omega)).trans (hf1 i hi))) (am_eq a2) (g2.fr q3 (fun i hi z => by have := hi.1; omega)))
set_option maxRecDepth 20000 in
theorem sp_104 (hd : 2 ≤ d) {a : Nat} (hn : h.length = a + 1) (ha : h[a]? = some (.inr (8, [.null, .null, .null, .null, .int 0, .int 0, .int 0, .int 0, .int 0]))) (hq : ∀ h', h'.length = a + 32 → (∀ i, i < a → h'[i]? = h[i]?) → h'[a]? = some (.inr (8, [.ref (a + 1), .ref (a + 29), .ref (a + 30), .ref (a + 31), .int 0, .int 0, .int 0, .int 0, .int 0])) → GrI (a + 1) 24 h' 0 (fun _ => 0) (fun _ _ => 0) → h'[a + 29]? = some (aI 24 (fun _ => 0)) → h'[a + 30]? = some (aI 2 (fun _ => 0)) → h'[a + 31]? = some (aI 2 (fun _ => 0)) → Q none h') : am_KA lx d 104 [.ref a] h Q := by
  obtain ⟨e, rfl⟩ : ∃ e, d = e + 1 := ⟨d - 1, by omega⟩
  have G : am_GK (am_KA lx e) cd_104 := ⟨am_KA_m lx e, cm_104⟩
  refine am_KA_in (by decide) (Nat.le_of_ble_eq_true rfl) ?_
  show am_Go (am_KA lx e) (am_fetch cd_104) Q 0 [some (.ref a)] [] h 0 0
  refine r_ra G (pn := 1) rfl rfl rfl ?_
  refine r_obj G (pn := 4) rfl rfl (Nat.le_of_ble_eq_true rfl) ?_
  refine r_ra G (pn := 5) rfl rfl rfl ?_
  refine r_new G (pn := 8) rfl rfl (Nat.le_of_ble_eq_true rfl) (Nat.le_of_ble_eq_true rfl) ?_
  refine r_dup G (pn := 9) rfl rfl rfl ?_
  refine r_ic G (pn := 11) rfl rfl  ?_
  rw [hn]
  have ha1 : (h ++ [.inr (2, [.null, .null, .null, .int 0])] : am_H)[a]? = some (.inr (8, [.null, .null, .null, .null, .int 0, .int 0, .int 0, .int 0, .int 0])) := ap_lt ha
  have hg1 : (h ++ [.inr (2, [.null, .null, .null, .int 0])] : am_H)[a + 1]? = some (.inr (2, [.null, .null, .null, .int 0])) := by rw [← hn]; exact ap_eq
  have hl1 : (h ++ [.inr (2, [.null, .null, .null, .int 0])] : am_H).length = a + 1 + 1 := by rw [List.length_append, hn]; rfl
  have hf1 : ∀ i, i < a → (h ++ [.inr (2, [.null, .null, .null, .int 0])] : am_H)[i]? = h[i]? := fun i hi => List.getElem?_append_left (by omega)
  generalize (h ++ [.inr (2, [.null, .null, .null, .int 0])] : am_H) = h1 at ha1 hg1 hl1 hf1
  refine r_inm2 G (pn := 14) rfl rfl (Nat.le_of_ble_eq_true rfl) (Nat.le_of_ble_eq_true rfl) (Nat.le_of_ble_eq_true rfl) (sp_76_24 (by omega) hl1 hg1 (fun h2 l2 f2 g2 => ?_))
  show am_Go _ _ _ 14 [some (.ref a)] [.ref (a + 1), .ref a] h2 _ _
  have a2 : h2[a]? = some (.inr (8, [.null, .null, .null, .null, .int 0, .int 0, .int 0, .int 0, .int 0])) := (f2 a (by omega)).trans ha1
  refine r_putr G (pn := 17) rfl rfl a2 (Nat.le_of_ble_eq_true rfl) rfl rfl ?_
  have q3 : am_fr (fun i => i = a) h2 (h2.set a (.inr (8, [.ref (a + 1), .null, .null, .null, .int 0, .int 0, .int 0, .int 0, .int 0]))) := am_fr.rf.put rfl
  have F0 : ∀ i, i < a → (h2.set a (.inr (8, [.ref (a + 1), .null, .null, .null, .int 0, .int 0, .int 0, .int 0, .int 0])))[i]? = h[i]? := fun i hi => (q3 i (by omega)).trans ((f2 i (by omega)).trans (hf1 i hi))
  have A0 : (h2.set a (.inr (8, [.ref (a + 1), .null, .null, .null, .int 0, .int 0, .int 0, .int 0, .int 0])))[a]? = some (.inr (8, [.ref (a + 1), .null, .null, .null, .int 0, .int 0, .int 0, .int 0, .int 0])) := am_eq a2
  have G0 := g2.fr q3 (fun i hi z => by have := hi.1; omega)
  have L0 : (h2.set a (.inr (8, [.ref (a + 1), .null, .null, .null, .int 0, .int 0, .int 0, .int 0, .int 0]))).length = a + 29 := by rw [List.length_set]; exact l2
  show am_Go _ _ _ 17 [some (.ref a)] [] (h2.set a (.inr (8, [.ref (a + 1), .null, .null, .null, .int 0, .int 0, .int 0, .int 0, .int 0] ))) _ _
  generalize (h2.set a (.inr (8, [.ref (a + 1), .null, .null, .null, .int 0, .int 0, .int 0, .int 0, .int 0])) : am_H) = k0 at F0 A0 G0 L0
  refine r_ra G (pn := 18) rfl rfl rfl ?_
  refine r_ic G (pn := 20) rfl rfl  ?_
  refine r_newi G (pn := 22) rfl rfl (by decide) (by decide) (Nat.le_of_ble_eq_true rfl) (Nat.le_of_ble_eq_true rfl) ?_
  rw [L0]
  refine r_putr G (pn := 25) rfl rfl (ap_lt A0) (Nat.le_of_ble_eq_true rfl) rfl rfl ?_
  show am_Go _ _ _ 25 [some (.ref a)] [] (((k0 ++ [aI 24 (fun _ => 0)]).set a (.inr (8, [.ref (a + 1), .ref (a + 29), .null, .null, .int 0, .int 0, .int 0, .int 0, .int 0] ))) : am_H) _ _
  have A1 : (((k0 ++ [aI 24 (fun _ => 0)]).set a (.inr (8, [.ref (a + 1), .ref (a + 29), .null, .null, .int 0, .int 0, .int 0, .int 0, .int 0]))) : am_H)[a]? = some (.inr (8, [.ref (a + 1), .ref (a + 29), .null, .null, .int 0, .int 0, .int 0, .int 0, .int 0])) := am_eq (ap_lt A0)
  have L1 : (((k0 ++ [aI 24 (fun _ => 0)]).set a (.inr (8, [.ref (a + 1), .ref (a + 29), .null, .null, .int 0, .int 0, .int 0, .int 0, .int 0]))) : am_H).length = a + 30 := by rw [List.length_set, List.length_append, L0]; rfl
  have F1 : ∀ i, i < a → (((k0 ++ [aI 24 (fun _ => 0)]).set a (.inr (8, [.ref (a + 1), .ref (a + 29), .null, .null, .int 0, .int 0, .int 0, .int 0, .int 0]))) : am_H)[i]? = h[i]? := fun i h1 => (ap_fr (by omega) (by omega)).trans (F0 i h1)
  have P1 : ∀ i, a < i → i < a + 29 → (((k0 ++ [aI 24 (fun _ => 0)]).set a (.inr (8, [.ref (a + 1), .ref (a + 29), .null, .null, .int 0, .int 0, .int 0, .int 0, .int 0]))) : am_H)[i]? = k0[i]? := fun i h1 h2 => ap_fr (by omega) (by omega)
  have G1 := gr_same G0 (h' := (((k0 ++ [aI 24 (fun _ => 0)]).set a (.inr (8, [.ref (a + 1), .ref (a + 29), .null, .null, .int 0, .int 0, .int 0, .int 0, .int 0]))) : am_H)) (fun i h1 h2 => P1 i (by omega) (by omega))
  have C0 : (((k0 ++ [aI 24 (fun _ => 0)]).set a (.inr (8, [.ref (a + 1), .ref (a + 29), .null, .null, .int 0, .int 0, .int 0, .int 0, .int 0]))) : am_H)[a + 29]? = some (aI 24 (fun _ => 0)) := by rw [List.getElem?_set_ne (by omega), ← L0]; exact ap_eq
  generalize (((k0 ++ [aI 24 (fun _ => 0)]).set a (.inr (8, [.ref (a + 1), .ref (a + 29), .null, .null, .int 0, .int 0, .int 0, .int 0, .int 0]))) : am_H) = k1 at A1 L1 F1 P1 G1 C0
  refine r_ra G (pn := 26) rfl rfl rfl ?_
  refine r_ic G (pn := 27) rfl rfl  ?_
  refine r_newi G (pn := 29) rfl rfl (by decide) (by decide) (Nat.le_of_ble_eq_true rfl) (Nat.le_of_ble_eq_true rfl) ?_
  rw [L1]
  refine r_putr G (pn := 32) rfl rfl (ap_lt A1) (Nat.le_of_ble_eq_true rfl) rfl rfl ?_
  show am_Go _ _ _ 32 [some (.ref a)] [] (((k1 ++ [aI 2 (fun _ => 0)]).set a (.inr (8, [.ref (a + 1), .ref (a + 29), .ref (a + 30), .null, .int 0, .int 0, .int 0, .int 0, .int 0] ))) : am_H) _ _
  have A2 : (((k1 ++ [aI 2 (fun _ => 0)]).set a (.inr (8, [.ref (a + 1), .ref (a + 29), .ref (a + 30), .null, .int 0, .int 0, .int 0, .int 0, .int 0]))) : am_H)[a]? = some (.inr (8, [.ref (a + 1), .ref (a + 29), .ref (a + 30), .null, .int 0, .int 0, .int 0, .int 0, .int 0])) := am_eq (ap_lt A1)
  have L2 : (((k1 ++ [aI 2 (fun _ => 0)]).set a (.inr (8, [.ref (a + 1), .ref (a + 29), .ref (a + 30), .null, .int 0, .int 0, .int 0, .int 0, .int 0]))) : am_H).length = a + 31 := by rw [List.length_set, List.length_append, L1]; rfl
  have F2 : ∀ i, i < a → (((k1 ++ [aI 2 (fun _ => 0)]).set a (.inr (8, [.ref (a + 1), .ref (a + 29), .ref (a + 30), .null, .int 0, .int 0, .int 0, .int 0, .int 0]))) : am_H)[i]? = h[i]? := fun i h1 => (ap_fr (by omega) (by omega)).trans (F1 i h1)
  have P2 : ∀ i, a < i → i < a + 30 → (((k1 ++ [aI 2 (fun _ => 0)]).set a (.inr (8, [.ref (a + 1), .ref (a + 29), .ref (a + 30), .null, .int 0, .int 0, .int 0, .int 0, .int 0]))) : am_H)[i]? = k1[i]? := fun i h1 h2 => ap_fr (by omega) (by omega)
  have G2 := gr_same G1 (h' := (((k1 ++ [aI 2 (fun _ => 0)]).set a (.inr (8, [.ref (a + 1), .ref (a + 29), .ref (a + 30), .null, .int 0, .int 0, .int 0, .int 0, .int 0]))) : am_H)) (fun i h1 h2 => P2 i (by omega) (by omega))
  have C1 : (((k1 ++ [aI 2 (fun _ => 0)]).set a (.inr (8, [.ref (a + 1), .ref (a + 29), .ref (a + 30), .null, .int 0, .int 0, .int 0, .int 0, .int 0]))) : am_H)[a + 30]? = some (aI 2 (fun _ => 0)) := by rw [List.getElem?_set_ne (by omega), ← L1]; exact ap_eq
  have C0 := (P2 (a + 29) (by omega) (by omega)).trans C0
  generalize (((k1 ++ [aI 2 (fun _ => 0)]).set a (.inr (8, [.ref (a + 1), .ref (a + 29), .ref (a + 30), .null, .int 0, .int 0, .int 0, .int 0, .int 0]))) : am_H) = k2 at A2 L2 F2 P2 G2 C0 C1
  refine r_ra G (pn := 33) rfl rfl rfl ?_
  refine r_ic G (pn := 34) rfl rfl  ?_
  refine r_newi G (pn := 36) rfl rfl (by decide) (by decide) (Nat.le_of_ble_eq_true rfl) (Nat.le_of_ble_eq_true rfl) ?_
  rw [L2]
  refine r_putr G (pn := 39) rfl rfl (ap_lt A2) (Nat.le_of_ble_eq_true rfl) rfl rfl ?_
  show am_Go _ _ _ 39 [some (.ref a)] [] (((k2 ++ [aI 2 (fun _ => 0)]).set a (.inr (8, [.ref (a + 1), .ref (a + 29), .ref (a + 30), .ref (a + 31), .int 0, .int 0, .int 0, .int 0, .int 0] ))) : am_H) _ _
  have A3 : (((k2 ++ [aI 2 (fun _ => 0)]).set a (.inr (8, [.ref (a + 1), .ref (a + 29), .ref (a + 30), .ref (a + 31), .int 0, .int 0, .int 0, .int 0, .int 0]))) : am_H)[a]? = some (.inr (8, [.ref (a + 1), .ref (a + 29), .ref (a + 30), .ref (a + 31), .int 0, .int 0, .int 0, .int 0, .int 0])) := am_eq (ap_lt A2)
  have L3 : (((k2 ++ [aI 2 (fun _ => 0)]).set a (.inr (8, [.ref (a + 1), .ref (a + 29), .ref (a + 30), .ref (a + 31), .int 0, .int 0, .int 0, .int 0, .int 0]))) : am_H).length = a + 32 := by rw [List.length_set, List.length_append, L2]; rfl
  have F3 : ∀ i, i < a → (((k2 ++ [aI 2 (fun _ => 0)]).set a (.inr (8, [.ref (a + 1), .ref (a + 29), .ref (a + 30), .ref (a + 31), .int 0, .int 0, .int 0, .int 0, .int 0]))) : am_H)[i]? = h[i]? := fun i h1 => (ap_fr (by omega) (by omega)).trans (F2 i h1)
  have P3 : ∀ i, a < i → i < a + 31 → (((k2 ++ [aI 2 (fun _ => 0)]).set a (.inr (8, [.ref (a + 1), .ref (a + 29), .ref (a + 30), .ref (a + 31), .int 0, .int 0, .int 0, .int 0, .int 0]))) : am_H)[i]? = k2[i]? := fun i h1 h2 => ap_fr (by omega) (by omega)
  have G3 := gr_same G2 (h' := (((k2 ++ [aI 2 (fun _ => 0)]).set a (.inr (8, [.ref (a + 1), .ref (a + 29), .ref (a + 30), .ref (a + 31), .int 0, .int 0, .int 0, .int 0, .int 0]))) : am_H)) (fun i h1 h2 => P3 i (by omega) (by omega))
  have C2 : (((k2 ++ [aI 2 (fun _ => 0)]).set a (.inr (8, [.ref (a + 1), .ref (a + 29), .ref (a + 30), .ref (a + 31), .int 0, .int 0, .int 0, .int 0, .int 0]))) : am_H)[a + 31]? = some (aI 2 (fun _ => 0)) := by rw [List.getElem?_set_ne (by omega), ← L2]; exact ap_eq
  have C0 := (P3 (a + 29) (by omega) (by omega)).trans C0
  have C1 := (P3 (a + 30) (by omega) (by omega)).trans C1
  generalize (((k2 ++ [aI 2 (fun _ => 0)]).set a (.inr (8, [.ref (a + 1), .ref (a + 29), .ref (a + 30), .ref (a + 31), .int 0, .int 0, .int 0, .int 0, .int 0]))) : am_H) = k3 at A3 L3 F3 P3 G3 C0 C1 C2
  exact r_vret G rfl (hq k3 L3 F3 A3 G3 C0 C1 C2)
end
