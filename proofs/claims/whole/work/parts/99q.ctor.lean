theorem ap_lt {h : am_H} {t : List am_C} {k : Nat} {e : am_C} (hk : h[k]? = some e) : (h ++ t)[k]? = some e := by
  rw [List.getElem?_append_left (List.getElem?_eq_some_iff.mp hk).1]
  exact hk
theorem ap_eq {h : am_H} {x : am_C} {t : List am_C} : (h ++ x :: t)[h.length]? = some x := by
  rw [List.getElem?_append_right (Nat.le_refl _), Nat.sub_self]
  rfl
theorem ap_fr {h : am_H} {t : List am_C} {a k : Nat} {e : am_C} (h1 : k < h.length) (h2 : k ≠ a) : ((h ++ t).set a e)[k]? = h[k]? := by
  rw [List.getElem?_set_ne (fun z => h2 z.symm), List.getElem?_append_left h1]
section
variable {lx : am_Lx} {d : Nat} {h : am_H} {Q : am_Q}
set_option maxRecDepth 20000 in
theorem sp_70 (hd : 1 ≤ d) {a n : Nat} (hn : h.length = n) (ha : h[a]? = some (.inr (1, [.null, .null, .int 0]))) (hq : ∀ h', h'.length = n + 2 → (∀ i, i < n → i ≠ a → h'[i]? = h[i]?) → h'[a]? = some (.inr (1, [.ref (n + 0), .ref (n + 1), .int 0])) → h'[n + 0]? = some (aI 3 (fun _ => 0)) → h'[n + 1]? = some (aI 2160 (fun _ => 0)) → Q none h') : am_KA lx d 70 [.ref a] h Q := by
  have hlt : a < n := by rw [← hn]; exact (List.getElem?_eq_some_iff.mp ha).1
  obtain ⟨e, rfl⟩ : ∃ e, d = e + 1 := ⟨d - 1, by omega⟩
  have G : am_GK (am_KA lx e) cd_70 := ⟨am_KA_m lx e, cm_70⟩
  refine am_KA_in (by decide) (Nat.le_of_ble_eq_true rfl) ?_
  show am_Go (am_KA lx e) (am_fetch cd_70) Q 0 [some (.ref a)] [] h 0 0
  have A0 := ha
  have L0 : h.length = n + 0 := hn
  have F0 : ∀ i, i < n → i ≠ a → h[i]? = h[i]? := fun _ _ _ => rfl
  refine r_ra G (pn := 1) rfl rfl rfl ?_
  refine r_obj G (pn := 4) rfl rfl (Nat.le_of_ble_eq_true rfl) ?_
  refine r_ra G (pn := 5) rfl rfl rfl ?_
  refine r_ic G (pn := 6) rfl rfl  ?_
  refine r_newi G (pn := 8) rfl rfl (by decide) (by decide) (Nat.le_of_ble_eq_true rfl) (Nat.le_of_ble_eq_true rfl) ?_
  rw [L0]
  refine r_putr G (pn := 11) rfl rfl (ap_lt A0) (Nat.le_of_ble_eq_true rfl) rfl rfl ?_
  show am_Go _ _ _ 11 [some (.ref a)] [] (((h ++ [aI 3 (fun _ => 0)]).set a (.inr (1, [.ref (n + 0), .null, .int 0] ))) : am_H) _ _
  have A1 : (((h ++ [aI 3 (fun _ => 0)]).set a (.inr (1, [.ref (n + 0), .null, .int 0]))) : am_H)[a]? = some (.inr (1, [.ref (n + 0), .null, .int 0])) := am_eq (ap_lt A0)
  have L1 : (((h ++ [aI 3 (fun _ => 0)]).set a (.inr (1, [.ref (n + 0), .null, .int 0]))) : am_H).length = n + 1 := by rw [List.length_set, List.length_append, L0]; rfl
  have F1 : ∀ i, i < n → i ≠ a → (((h ++ [aI 3 (fun _ => 0)]).set a (.inr (1, [.ref (n + 0), .null, .int 0]))) : am_H)[i]? = h[i]? := fun i h1 h2 => (ap_fr (by omega) h2).trans (F0 i h1 h2)
  have C0 : (((h ++ [aI 3 (fun _ => 0)]).set a (.inr (1, [.ref (n + 0), .null, .int 0]))) : am_H)[n + 0]? = some (aI 3 (fun _ => 0)) := by rw [List.getElem?_set_ne (by omega), ← L0]; exact ap_eq
  generalize (((h ++ [aI 3 (fun _ => 0)]).set a (.inr (1, [.ref (n + 0), .null, .int 0]))) : am_H) = h1 at A1 L1 F1 C0
  refine r_ra G (pn := 12) rfl rfl rfl ?_
  refine r_ic G (pn := 15) rfl rfl  ?_
  refine r_newi G (pn := 17) rfl rfl (by decide) (by decide) (Nat.le_of_ble_eq_true rfl) (Nat.le_of_ble_eq_true rfl) ?_
  rw [L1]
  refine r_putr G (pn := 20) rfl rfl (ap_lt A1) (Nat.le_of_ble_eq_true rfl) rfl rfl ?_
  show am_Go _ _ _ 20 [some (.ref a)] [] (((h1 ++ [aI 2160 (fun _ => 0)]).set a (.inr (1, [.ref (n + 0), .ref (n + 1), .int 0] ))) : am_H) _ _
  have A2 : (((h1 ++ [aI 2160 (fun _ => 0)]).set a (.inr (1, [.ref (n + 0), .ref (n + 1), .int 0]))) : am_H)[a]? = some (.inr (1, [.ref (n + 0), .ref (n + 1), .int 0])) := am_eq (ap_lt A1)
  have L2 : (((h1 ++ [aI 2160 (fun _ => 0)]).set a (.inr (1, [.ref (n + 0), .ref (n + 1), .int 0]))) : am_H).length = n + 2 := by rw [List.length_set, List.length_append, L1]; rfl
  have F2 : ∀ i, i < n → i ≠ a → (((h1 ++ [aI 2160 (fun _ => 0)]).set a (.inr (1, [.ref (n + 0), .ref (n + 1), .int 0]))) : am_H)[i]? = h[i]? := fun i h1 h2 => (ap_fr (by omega) h2).trans (F1 i h1 h2)
  have C1 : (((h1 ++ [aI 2160 (fun _ => 0)]).set a (.inr (1, [.ref (n + 0), .ref (n + 1), .int 0]))) : am_H)[n + 1]? = some (aI 2160 (fun _ => 0)) := by rw [List.getElem?_set_ne (by omega), ← L1]; exact ap_eq
  have C0 : (((h1 ++ [aI 2160 (fun _ => 0)]).set a (.inr (1, [.ref (n + 0), .ref (n + 1), .int 0]))) : am_H)[n + 0]? = some (aI 3 (fun _ => 0)) := (ap_fr (by omega) (by omega)).trans C0
  generalize (((h1 ++ [aI 2160 (fun _ => 0)]).set a (.inr (1, [.ref (n + 0), .ref (n + 1), .int 0]))) : am_H) = h2 at A2 L2 F2 C0 C1
  exact r_vret G rfl (hq h2 L2 F2 A2 C0 C1)
set_option maxRecDepth 20000 in
theorem sp_81 (hd : 1 ≤ d) {a n : Nat} (hn : h.length = n) (ha : h[a]? = some (.inr (3, [.null, .null, .null]))) (hq : ∀ h', h'.length = n + 3 → (∀ i, i < n → i ≠ a → h'[i]? = h[i]?) → h'[a]? = some (.inr (3, [.ref (n + 0), .ref (n + 1), .ref (n + 2)])) → h'[n + 0]? = some (aI 5 (fun _ => 0)) → h'[n + 1]? = some (aI 5 (fun _ => 0)) → h'[n + 2]? = some (aI 5 (fun _ => 0)) → Q none h') : am_KA lx d 81 [.ref a] h Q := by
  have hlt : a < n := by rw [← hn]; exact (List.getElem?_eq_some_iff.mp ha).1
  obtain ⟨e, rfl⟩ : ∃ e, d = e + 1 := ⟨d - 1, by omega⟩
  have G : am_GK (am_KA lx e) cd_81 := ⟨am_KA_m lx e, cm_81⟩
  refine am_KA_in (by decide) (Nat.le_of_ble_eq_true rfl) ?_
  show am_Go (am_KA lx e) (am_fetch cd_81) Q 0 [some (.ref a)] [] h 0 0
  have A0 := ha
  have L0 : h.length = n + 0 := hn
  have F0 : ∀ i, i < n → i ≠ a → h[i]? = h[i]? := fun _ _ _ => rfl
  refine r_ra G (pn := 1) rfl rfl rfl ?_
  refine r_obj G (pn := 4) rfl rfl (Nat.le_of_ble_eq_true rfl) ?_
  refine r_ra G (pn := 5) rfl rfl rfl ?_
  refine r_ic G (pn := 6) rfl rfl  ?_
  refine r_newi G (pn := 8) rfl rfl (by decide) (by decide) (Nat.le_of_ble_eq_true rfl) (Nat.le_of_ble_eq_true rfl) ?_
  rw [L0]
  refine r_putr G (pn := 11) rfl rfl (ap_lt A0) (Nat.le_of_ble_eq_true rfl) rfl rfl ?_
  show am_Go _ _ _ 11 [some (.ref a)] [] (((h ++ [aI 5 (fun _ => 0)]).set a (.inr (3, [.ref (n + 0), .null, .null] ))) : am_H) _ _
  have A1 : (((h ++ [aI 5 (fun _ => 0)]).set a (.inr (3, [.ref (n + 0), .null, .null]))) : am_H)[a]? = some (.inr (3, [.ref (n + 0), .null, .null])) := am_eq (ap_lt A0)
  have L1 : (((h ++ [aI 5 (fun _ => 0)]).set a (.inr (3, [.ref (n + 0), .null, .null]))) : am_H).length = n + 1 := by rw [List.length_set, List.length_append, L0]; rfl
  have F1 : ∀ i, i < n → i ≠ a → (((h ++ [aI 5 (fun _ => 0)]).set a (.inr (3, [.ref (n + 0), .null, .null]))) : am_H)[i]? = h[i]? := fun i h1 h2 => (ap_fr (by omega) h2).trans (F0 i h1 h2)
  have C0 : (((h ++ [aI 5 (fun _ => 0)]).set a (.inr (3, [.ref (n + 0), .null, .null]))) : am_H)[n + 0]? = some (aI 5 (fun _ => 0)) := by rw [List.getElem?_set_ne (by omega), ← L0]; exact ap_eq
  generalize (((h ++ [aI 5 (fun _ => 0)]).set a (.inr (3, [.ref (n + 0), .null, .null]))) : am_H) = h1 at A1 L1 F1 C0
  refine r_ra G (pn := 12) rfl rfl rfl ?_
  refine r_ic G (pn := 13) rfl rfl  ?_
  refine r_newi G (pn := 15) rfl rfl (by decide) (by decide) (Nat.le_of_ble_eq_true rfl) (Nat.le_of_ble_eq_true rfl) ?_
  rw [L1]
  refine r_putr G (pn := 18) rfl rfl (ap_lt A1) (Nat.le_of_ble_eq_true rfl) rfl rfl ?_
  show am_Go _ _ _ 18 [some (.ref a)] [] (((h1 ++ [aI 5 (fun _ => 0)]).set a (.inr (3, [.ref (n + 0), .ref (n + 1), .null] ))) : am_H) _ _
  have A2 : (((h1 ++ [aI 5 (fun _ => 0)]).set a (.inr (3, [.ref (n + 0), .ref (n + 1), .null]))) : am_H)[a]? = some (.inr (3, [.ref (n + 0), .ref (n + 1), .null])) := am_eq (ap_lt A1)
  have L2 : (((h1 ++ [aI 5 (fun _ => 0)]).set a (.inr (3, [.ref (n + 0), .ref (n + 1), .null]))) : am_H).length = n + 2 := by rw [List.length_set, List.length_append, L1]; rfl
  have F2 : ∀ i, i < n → i ≠ a → (((h1 ++ [aI 5 (fun _ => 0)]).set a (.inr (3, [.ref (n + 0), .ref (n + 1), .null]))) : am_H)[i]? = h[i]? := fun i h1 h2 => (ap_fr (by omega) h2).trans (F1 i h1 h2)
  have C1 : (((h1 ++ [aI 5 (fun _ => 0)]).set a (.inr (3, [.ref (n + 0), .ref (n + 1), .null]))) : am_H)[n + 1]? = some (aI 5 (fun _ => 0)) := by rw [List.getElem?_set_ne (by omega), ← L1]; exact ap_eq
  have C0 : (((h1 ++ [aI 5 (fun _ => 0)]).set a (.inr (3, [.ref (n + 0), .ref (n + 1), .null]))) : am_H)[n + 0]? = some (aI 5 (fun _ => 0)) := (ap_fr (by omega) (by omega)).trans C0
  generalize (((h1 ++ [aI 5 (fun _ => 0)]).set a (.inr (3, [.ref (n + 0), .ref (n + 1), .null]))) : am_H) = h2 at A2 L2 F2 C0 C1
  refine r_ra G (pn := 19) rfl rfl rfl ?_
  refine r_ic G (pn := 20) rfl rfl  ?_
  refine r_newi G (pn := 22) rfl rfl (by decide) (by decide) (Nat.le_of_ble_eq_true rfl) (Nat.le_of_ble_eq_true rfl) ?_
  rw [L2]
  refine r_putr G (pn := 25) rfl rfl (ap_lt A2) (Nat.le_of_ble_eq_true rfl) rfl rfl ?_
  show am_Go _ _ _ 25 [some (.ref a)] [] (((h2 ++ [aI 5 (fun _ => 0)]).set a (.inr (3, [.ref (n + 0), .ref (n + 1), .ref (n + 2)] ))) : am_H) _ _
  have A3 : (((h2 ++ [aI 5 (fun _ => 0)]).set a (.inr (3, [.ref (n + 0), .ref (n + 1), .ref (n + 2)]))) : am_H)[a]? = some (.inr (3, [.ref (n + 0), .ref (n + 1), .ref (n + 2)])) := am_eq (ap_lt A2)
  have L3 : (((h2 ++ [aI 5 (fun _ => 0)]).set a (.inr (3, [.ref (n + 0), .ref (n + 1), .ref (n + 2)]))) : am_H).length = n + 3 := by rw [List.length_set, List.length_append, L2]; rfl
  have F3 : ∀ i, i < n → i ≠ a → (((h2 ++ [aI 5 (fun _ => 0)]).set a (.inr (3, [.ref (n + 0), .ref (n + 1), .ref (n + 2)]))) : am_H)[i]? = h[i]? := fun i h1 h2 => (ap_fr (by omega) h2).trans (F2 i h1 h2)
  have C2 : (((h2 ++ [aI 5 (fun _ => 0)]).set a (.inr (3, [.ref (n + 0), .ref (n + 1), .ref (n + 2)]))) : am_H)[n + 2]? = some (aI 5 (fun _ => 0)) := by rw [List.getElem?_set_ne (by omega), ← L2]; exact ap_eq
  have C0 : (((h2 ++ [aI 5 (fun _ => 0)]).set a (.inr (3, [.ref (n + 0), .ref (n + 1), .ref (n + 2)]))) : am_H)[n + 0]? = some (aI 5 (fun _ => 0)) := (ap_fr (by omega) (by omega)).trans C0
  have C1 : (((h2 ++ [aI 5 (fun _ => 0)]).set a (.inr (3, [.ref (n + 0), .ref (n + 1), .ref (n + 2)]))) : am_H)[n + 1]? = some (aI 5 (fun _ => 0)) := (ap_fr (by omega) (by omega)).trans C1
  generalize (((h2 ++ [aI 5 (fun _ => 0)]).set a (.inr (3, [.ref (n + 0), .ref (n + 1), .ref (n + 2)]))) : am_H) = h3 at A3 L3 F3 C0 C1 C2
  exact r_vret G rfl (hq h3 L3 F3 A3 C0 C1 C2)
set_option maxRecDepth 20000 in
theorem sp_86 (hd : 1 ≤ d) {a n : Nat} (hn : h.length = n) (ha : h[a]? = some (.inr (4, [.null, .int 0]))) (hq : ∀ h', h'.length = n + 1 → (∀ i, i < n → i ≠ a → h'[i]? = h[i]?) → h'[a]? = some (.inr (4, [.ref (n + 0), .int 0])) → h'[n + 0]? = some ((.inl (.char, 24, .inl (fun _ => 0)) : am_C)) → Q none h') : am_KA lx d 86 [.ref a] h Q := by
  have hlt : a < n := by rw [← hn]; exact (List.getElem?_eq_some_iff.mp ha).1
  obtain ⟨e, rfl⟩ : ∃ e, d = e + 1 := ⟨d - 1, by omega⟩
  have G : am_GK (am_KA lx e) cd_86 := ⟨am_KA_m lx e, cm_86⟩
  refine am_KA_in (by decide) (Nat.le_of_ble_eq_true rfl) ?_
  show am_Go (am_KA lx e) (am_fetch cd_86) Q 0 [some (.ref a)] [] h 0 0
  have A0 := ha
  have L0 : h.length = n + 0 := hn
  have F0 : ∀ i, i < n → i ≠ a → h[i]? = h[i]? := fun _ _ _ => rfl
  refine r_ra G (pn := 1) rfl rfl rfl ?_
  refine r_obj G (pn := 4) rfl rfl (Nat.le_of_ble_eq_true rfl) ?_
  refine r_ra G (pn := 5) rfl rfl rfl ?_
  refine r_ic G (pn := 7) rfl rfl  ?_
  refine r_newi G (pn := 9) rfl rfl (by decide) (by decide) (Nat.le_of_ble_eq_true rfl) (Nat.le_of_ble_eq_true rfl) ?_
  rw [L0]
  refine r_putr G (pn := 12) rfl rfl (ap_lt A0) (Nat.le_of_ble_eq_true rfl) rfl rfl ?_
  show am_Go _ _ _ 12 [some (.ref a)] [] (((h ++ [(.inl (.char, 24, .inl (fun _ => 0)) : am_C)]).set a (.inr (4, [.ref (n + 0), .int 0] ))) : am_H) _ _
  have A1 : (((h ++ [(.inl (.char, 24, .inl (fun _ => 0)) : am_C)]).set a (.inr (4, [.ref (n + 0), .int 0]))) : am_H)[a]? = some (.inr (4, [.ref (n + 0), .int 0])) := am_eq (ap_lt A0)
  have L1 : (((h ++ [(.inl (.char, 24, .inl (fun _ => 0)) : am_C)]).set a (.inr (4, [.ref (n + 0), .int 0]))) : am_H).length = n + 1 := by rw [List.length_set, List.length_append, L0]; rfl
  have F1 : ∀ i, i < n → i ≠ a → (((h ++ [(.inl (.char, 24, .inl (fun _ => 0)) : am_C)]).set a (.inr (4, [.ref (n + 0), .int 0]))) : am_H)[i]? = h[i]? := fun i h1 h2 => (ap_fr (by omega) h2).trans (F0 i h1 h2)
  have C0 : (((h ++ [(.inl (.char, 24, .inl (fun _ => 0)) : am_C)]).set a (.inr (4, [.ref (n + 0), .int 0]))) : am_H)[n + 0]? = some ((.inl (.char, 24, .inl (fun _ => 0)) : am_C)) := by rw [List.getElem?_set_ne (by omega), ← L0]; exact ap_eq
  generalize (((h ++ [(.inl (.char, 24, .inl (fun _ => 0)) : am_C)]).set a (.inr (4, [.ref (n + 0), .int 0]))) : am_H) = h1 at A1 L1 F1 C0
  exact r_vret G rfl (hq h1 L1 F1 A1 C0)
set_option maxRecDepth 20000 in
theorem sp_95 (hd : 1 ≤ d) {a n : Nat} (hn : h.length = n) (ha : h[a]? = some (.inr (6, [.null, .null, .int 0, .int 0]))) (hq : ∀ h', h'.length = n + 2 → (∀ i, i < n → i ≠ a → h'[i]? = h[i]?) → h'[a]? = some (.inr (6, [.ref (n + 0), .ref (n + 1), .int 0, .int 0])) → h'[n + 0]? = some (aL 3 (fun _ => 0)) → h'[n + 1]? = some (aI 10 (fun _ => 0)) → Q none h') : am_KA lx d 95 [.ref a] h Q := by
  have hlt : a < n := by rw [← hn]; exact (List.getElem?_eq_some_iff.mp ha).1
  obtain ⟨e, rfl⟩ : ∃ e, d = e + 1 := ⟨d - 1, by omega⟩
  have G : am_GK (am_KA lx e) cd_95 := ⟨am_KA_m lx e, cm_95⟩
  refine am_KA_in (by decide) (Nat.le_of_ble_eq_true rfl) ?_
  show am_Go (am_KA lx e) (am_fetch cd_95) Q 0 [some (.ref a)] [] h 0 0
  have A0 := ha
  have L0 : h.length = n + 0 := hn
  have F0 : ∀ i, i < n → i ≠ a → h[i]? = h[i]? := fun _ _ _ => rfl
  refine r_ra G (pn := 1) rfl rfl rfl ?_
  refine r_obj G (pn := 4) rfl rfl (Nat.le_of_ble_eq_true rfl) ?_
  refine r_ra G (pn := 5) rfl rfl rfl ?_
  refine r_ic G (pn := 6) rfl rfl  ?_
  refine r_newl G (pn := 8) rfl rfl (by decide) (by decide) (Nat.le_of_ble_eq_true rfl) (Nat.le_of_ble_eq_true rfl) ?_
  rw [L0]
  refine r_putr G (pn := 11) rfl rfl (ap_lt A0) (Nat.le_of_ble_eq_true rfl) rfl rfl ?_
  show am_Go _ _ _ 11 [some (.ref a)] [] (((h ++ [aL 3 (fun _ => 0)]).set a (.inr (6, [.ref (n + 0), .null, .int 0, .int 0] ))) : am_H) _ _
  have A1 : (((h ++ [aL 3 (fun _ => 0)]).set a (.inr (6, [.ref (n + 0), .null, .int 0, .int 0]))) : am_H)[a]? = some (.inr (6, [.ref (n + 0), .null, .int 0, .int 0])) := am_eq (ap_lt A0)
  have L1 : (((h ++ [aL 3 (fun _ => 0)]).set a (.inr (6, [.ref (n + 0), .null, .int 0, .int 0]))) : am_H).length = n + 1 := by rw [List.length_set, List.length_append, L0]; rfl
  have F1 : ∀ i, i < n → i ≠ a → (((h ++ [aL 3 (fun _ => 0)]).set a (.inr (6, [.ref (n + 0), .null, .int 0, .int 0]))) : am_H)[i]? = h[i]? := fun i h1 h2 => (ap_fr (by omega) h2).trans (F0 i h1 h2)
  have C0 : (((h ++ [aL 3 (fun _ => 0)]).set a (.inr (6, [.ref (n + 0), .null, .int 0, .int 0]))) : am_H)[n + 0]? = some (aL 3 (fun _ => 0)) := by rw [List.getElem?_set_ne (by omega), ← L0]; exact ap_eq
  generalize (((h ++ [aL 3 (fun _ => 0)]).set a (.inr (6, [.ref (n + 0), .null, .int 0, .int 0]))) : am_H) = h1 at A1 L1 F1 C0
  refine r_ra G (pn := 12) rfl rfl rfl ?_
  refine r_ic G (pn := 14) rfl rfl  ?_
  refine r_newi G (pn := 16) rfl rfl (by decide) (by decide) (Nat.le_of_ble_eq_true rfl) (Nat.le_of_ble_eq_true rfl) ?_
  rw [L1]
  refine r_putr G (pn := 19) rfl rfl (ap_lt A1) (Nat.le_of_ble_eq_true rfl) rfl rfl ?_
  show am_Go _ _ _ 19 [some (.ref a)] [] (((h1 ++ [aI 10 (fun _ => 0)]).set a (.inr (6, [.ref (n + 0), .ref (n + 1), .int 0, .int 0] ))) : am_H) _ _
  have A2 : (((h1 ++ [aI 10 (fun _ => 0)]).set a (.inr (6, [.ref (n + 0), .ref (n + 1), .int 0, .int 0]))) : am_H)[a]? = some (.inr (6, [.ref (n + 0), .ref (n + 1), .int 0, .int 0])) := am_eq (ap_lt A1)
  have L2 : (((h1 ++ [aI 10 (fun _ => 0)]).set a (.inr (6, [.ref (n + 0), .ref (n + 1), .int 0, .int 0]))) : am_H).length = n + 2 := by rw [List.length_set, List.length_append, L1]; rfl
  have F2 : ∀ i, i < n → i ≠ a → (((h1 ++ [aI 10 (fun _ => 0)]).set a (.inr (6, [.ref (n + 0), .ref (n + 1), .int 0, .int 0]))) : am_H)[i]? = h[i]? := fun i h1 h2 => (ap_fr (by omega) h2).trans (F1 i h1 h2)
  have C1 : (((h1 ++ [aI 10 (fun _ => 0)]).set a (.inr (6, [.ref (n + 0), .ref (n + 1), .int 0, .int 0]))) : am_H)[n + 1]? = some (aI 10 (fun _ => 0)) := by rw [List.getElem?_set_ne (by omega), ← L1]; exact ap_eq
  have C0 : (((h1 ++ [aI 10 (fun _ => 0)]).set a (.inr (6, [.ref (n + 0), .ref (n + 1), .int 0, .int 0]))) : am_H)[n + 0]? = some (aL 3 (fun _ => 0)) := (ap_fr (by omega) (by omega)).trans C0
  generalize (((h1 ++ [aI 10 (fun _ => 0)]).set a (.inr (6, [.ref (n + 0), .ref (n + 1), .int 0, .int 0]))) : am_H) = h2 at A2 L2 F2 C0 C1
  exact r_vret G rfl (hq h2 L2 F2 A2 C0 C1)
set_option maxRecDepth 20000 in
theorem sp_98 (hd : 1 ≤ d) {a n : Nat} (hn : h.length = n) (ha : h[a]? = some (.inr (7, [.null, .int 0]))) (hq : ∀ h', h'.length = n + 1 → (∀ i, i < n → i ≠ a → h'[i]? = h[i]?) → h'[a]? = some (.inr (7, [.ref (n + 0), .int 0])) → h'[n + 0]? = some (aI 40 (fun _ => 0)) → Q none h') : am_KA lx d 98 [.ref a] h Q := by
  have hlt : a < n := by rw [← hn]; exact (List.getElem?_eq_some_iff.mp ha).1
  obtain ⟨e, rfl⟩ : ∃ e, d = e + 1 := ⟨d - 1, by omega⟩
  have G : am_GK (am_KA lx e) cd_98 := ⟨am_KA_m lx e, cm_98⟩
  refine am_KA_in (by decide) (Nat.le_of_ble_eq_true rfl) ?_
  show am_Go (am_KA lx e) (am_fetch cd_98) Q 0 [some (.ref a)] [] h 0 0
  have A0 := ha
  have L0 : h.length = n + 0 := hn
  have F0 : ∀ i, i < n → i ≠ a → h[i]? = h[i]? := fun _ _ _ => rfl
  refine r_ra G (pn := 1) rfl rfl rfl ?_
  refine r_obj G (pn := 4) rfl rfl (Nat.le_of_ble_eq_true rfl) ?_
  refine r_ra G (pn := 5) rfl rfl rfl ?_
  refine r_ic G (pn := 7) rfl rfl  ?_
  refine r_newi G (pn := 9) rfl rfl (by decide) (by decide) (Nat.le_of_ble_eq_true rfl) (Nat.le_of_ble_eq_true rfl) ?_
  rw [L0]
  refine r_putr G (pn := 12) rfl rfl (ap_lt A0) (Nat.le_of_ble_eq_true rfl) rfl rfl ?_
  show am_Go _ _ _ 12 [some (.ref a)] [] (((h ++ [aI 40 (fun _ => 0)]).set a (.inr (7, [.ref (n + 0), .int 0] ))) : am_H) _ _
  have A1 : (((h ++ [aI 40 (fun _ => 0)]).set a (.inr (7, [.ref (n + 0), .int 0]))) : am_H)[a]? = some (.inr (7, [.ref (n + 0), .int 0])) := am_eq (ap_lt A0)
  have L1 : (((h ++ [aI 40 (fun _ => 0)]).set a (.inr (7, [.ref (n + 0), .int 0]))) : am_H).length = n + 1 := by rw [List.length_set, List.length_append, L0]; rfl
  have F1 : ∀ i, i < n → i ≠ a → (((h ++ [aI 40 (fun _ => 0)]).set a (.inr (7, [.ref (n + 0), .int 0]))) : am_H)[i]? = h[i]? := fun i h1 h2 => (ap_fr (by omega) h2).trans (F0 i h1 h2)
  have C0 : (((h ++ [aI 40 (fun _ => 0)]).set a (.inr (7, [.ref (n + 0), .int 0]))) : am_H)[n + 0]? = some (aI 40 (fun _ => 0)) := by rw [List.getElem?_set_ne (by omega), ← L0]; exact ap_eq
  generalize (((h ++ [aI 40 (fun _ => 0)]).set a (.inr (7, [.ref (n + 0), .int 0]))) : am_H) = h1 at A1 L1 F1 C0
  exact r_vret G rfl (hq h1 L1 F1 A1 C0)
set_option maxRecDepth 20000 in
theorem sp_116 (hd : 1 ≤ d) {a n : Nat} (hn : h.length = n) (ha : h[a]? = some (.inr (9, [.null, .null, .null, .int 0]))) (hq : ∀ h', h'.length = n + 3 → (∀ i, i < n → i ≠ a → h'[i]? = h[i]?) → h'[a]? = some (.inr (9, [.ref (n + 0), .ref (n + 1), .ref (n + 2), .int 0])) → h'[n + 0]? = some (aI 3 (fun _ => 0)) → h'[n + 1]? = some (aI 3 (fun _ => 0)) → h'[n + 2]? = some (aI 3 (fun _ => 0)) → Q none h') : am_KA lx d 116 [.ref a] h Q := by
  have hlt : a < n := by rw [← hn]; exact (List.getElem?_eq_some_iff.mp ha).1
  obtain ⟨e, rfl⟩ : ∃ e, d = e + 1 := ⟨d - 1, by omega⟩
  have G : am_GK (am_KA lx e) cd_116 := ⟨am_KA_m lx e, cm_116⟩
  refine am_KA_in (by decide) (Nat.le_of_ble_eq_true rfl) ?_
  show am_Go (am_KA lx e) (am_fetch cd_116) Q 0 [some (.ref a)] [] h 0 0
  have A0 := ha
  have L0 : h.length = n + 0 := hn
  have F0 : ∀ i, i < n → i ≠ a → h[i]? = h[i]? := fun _ _ _ => rfl
  refine r_ra G (pn := 1) rfl rfl rfl ?_
  refine r_obj G (pn := 4) rfl rfl (Nat.le_of_ble_eq_true rfl) ?_
  refine r_ra G (pn := 5) rfl rfl rfl ?_
  refine r_ic G (pn := 6) rfl rfl  ?_
  refine r_newi G (pn := 8) rfl rfl (by decide) (by decide) (Nat.le_of_ble_eq_true rfl) (Nat.le_of_ble_eq_true rfl) ?_
  rw [L0]
  refine r_putr G (pn := 11) rfl rfl (ap_lt A0) (Nat.le_of_ble_eq_true rfl) rfl rfl ?_
  show am_Go _ _ _ 11 [some (.ref a)] [] (((h ++ [aI 3 (fun _ => 0)]).set a (.inr (9, [.ref (n + 0), .null, .null, .int 0] ))) : am_H) _ _
  have A1 : (((h ++ [aI 3 (fun _ => 0)]).set a (.inr (9, [.ref (n + 0), .null, .null, .int 0]))) : am_H)[a]? = some (.inr (9, [.ref (n + 0), .null, .null, .int 0])) := am_eq (ap_lt A0)
  have L1 : (((h ++ [aI 3 (fun _ => 0)]).set a (.inr (9, [.ref (n + 0), .null, .null, .int 0]))) : am_H).length = n + 1 := by rw [List.length_set, List.length_append, L0]; rfl
  have F1 : ∀ i, i < n → i ≠ a → (((h ++ [aI 3 (fun _ => 0)]).set a (.inr (9, [.ref (n + 0), .null, .null, .int 0]))) : am_H)[i]? = h[i]? := fun i h1 h2 => (ap_fr (by omega) h2).trans (F0 i h1 h2)
  have C0 : (((h ++ [aI 3 (fun _ => 0)]).set a (.inr (9, [.ref (n + 0), .null, .null, .int 0]))) : am_H)[n + 0]? = some (aI 3 (fun _ => 0)) := by rw [List.getElem?_set_ne (by omega), ← L0]; exact ap_eq
  generalize (((h ++ [aI 3 (fun _ => 0)]).set a (.inr (9, [.ref (n + 0), .null, .null, .int 0]))) : am_H) = h1 at A1 L1 F1 C0
  refine r_ra G (pn := 12) rfl rfl rfl ?_
  refine r_ic G (pn := 13) rfl rfl  ?_
  refine r_newi G (pn := 15) rfl rfl (by decide) (by decide) (Nat.le_of_ble_eq_true rfl) (Nat.le_of_ble_eq_true rfl) ?_
  rw [L1]
  refine r_putr G (pn := 18) rfl rfl (ap_lt A1) (Nat.le_of_ble_eq_true rfl) rfl rfl ?_
  show am_Go _ _ _ 18 [some (.ref a)] [] (((h1 ++ [aI 3 (fun _ => 0)]).set a (.inr (9, [.ref (n + 0), .ref (n + 1), .null, .int 0] ))) : am_H) _ _
  have A2 : (((h1 ++ [aI 3 (fun _ => 0)]).set a (.inr (9, [.ref (n + 0), .ref (n + 1), .null, .int 0]))) : am_H)[a]? = some (.inr (9, [.ref (n + 0), .ref (n + 1), .null, .int 0])) := am_eq (ap_lt A1)
  have L2 : (((h1 ++ [aI 3 (fun _ => 0)]).set a (.inr (9, [.ref (n + 0), .ref (n + 1), .null, .int 0]))) : am_H).length = n + 2 := by rw [List.length_set, List.length_append, L1]; rfl
  have F2 : ∀ i, i < n → i ≠ a → (((h1 ++ [aI 3 (fun _ => 0)]).set a (.inr (9, [.ref (n + 0), .ref (n + 1), .null, .int 0]))) : am_H)[i]? = h[i]? := fun i h1 h2 => (ap_fr (by omega) h2).trans (F1 i h1 h2)
  have C1 : (((h1 ++ [aI 3 (fun _ => 0)]).set a (.inr (9, [.ref (n + 0), .ref (n + 1), .null, .int 0]))) : am_H)[n + 1]? = some (aI 3 (fun _ => 0)) := by rw [List.getElem?_set_ne (by omega), ← L1]; exact ap_eq
  have C0 : (((h1 ++ [aI 3 (fun _ => 0)]).set a (.inr (9, [.ref (n + 0), .ref (n + 1), .null, .int 0]))) : am_H)[n + 0]? = some (aI 3 (fun _ => 0)) := (ap_fr (by omega) (by omega)).trans C0
  generalize (((h1 ++ [aI 3 (fun _ => 0)]).set a (.inr (9, [.ref (n + 0), .ref (n + 1), .null, .int 0]))) : am_H) = h2 at A2 L2 F2 C0 C1
  refine r_ra G (pn := 19) rfl rfl rfl ?_
  refine r_ic G (pn := 20) rfl rfl  ?_
  refine r_newi G (pn := 22) rfl rfl (by decide) (by decide) (Nat.le_of_ble_eq_true rfl) (Nat.le_of_ble_eq_true rfl) ?_
  rw [L2]
  refine r_putr G (pn := 25) rfl rfl (ap_lt A2) (Nat.le_of_ble_eq_true rfl) rfl rfl ?_
  show am_Go _ _ _ 25 [some (.ref a)] [] (((h2 ++ [aI 3 (fun _ => 0)]).set a (.inr (9, [.ref (n + 0), .ref (n + 1), .ref (n + 2), .int 0] ))) : am_H) _ _
  have A3 : (((h2 ++ [aI 3 (fun _ => 0)]).set a (.inr (9, [.ref (n + 0), .ref (n + 1), .ref (n + 2), .int 0]))) : am_H)[a]? = some (.inr (9, [.ref (n + 0), .ref (n + 1), .ref (n + 2), .int 0])) := am_eq (ap_lt A2)
  have L3 : (((h2 ++ [aI 3 (fun _ => 0)]).set a (.inr (9, [.ref (n + 0), .ref (n + 1), .ref (n + 2), .int 0]))) : am_H).length = n + 3 := by rw [List.length_set, List.length_append, L2]; rfl
  have F3 : ∀ i, i < n → i ≠ a → (((h2 ++ [aI 3 (fun _ => 0)]).set a (.inr (9, [.ref (n + 0), .ref (n + 1), .ref (n + 2), .int 0]))) : am_H)[i]? = h[i]? := fun i h1 h2 => (ap_fr (by omega) h2).trans (F2 i h1 h2)
  have C2 : (((h2 ++ [aI 3 (fun _ => 0)]).set a (.inr (9, [.ref (n + 0), .ref (n + 1), .ref (n + 2), .int 0]))) : am_H)[n + 2]? = some (aI 3 (fun _ => 0)) := by rw [List.getElem?_set_ne (by omega), ← L2]; exact ap_eq
  have C0 : (((h2 ++ [aI 3 (fun _ => 0)]).set a (.inr (9, [.ref (n + 0), .ref (n + 1), .ref (n + 2), .int 0]))) : am_H)[n + 0]? = some (aI 3 (fun _ => 0)) := (ap_fr (by omega) (by omega)).trans C0
  have C1 : (((h2 ++ [aI 3 (fun _ => 0)]).set a (.inr (9, [.ref (n + 0), .ref (n + 1), .ref (n + 2), .int 0]))) : am_H)[n + 1]? = some (aI 3 (fun _ => 0)) := (ap_fr (by omega) (by omega)).trans C1
  generalize (((h2 ++ [aI 3 (fun _ => 0)]).set a (.inr (9, [.ref (n + 0), .ref (n + 1), .ref (n + 2), .int 0]))) : am_H) = h3 at A3 L3 F3 C0 C1 C2
  exact r_vret G rfl (hq h3 L3 F3 A3 C0 C1 C2)
set_option maxRecDepth 20000 in
theorem sp_121 (hd : 1 ≤ d) {a n : Nat} (hn : h.length = n) (ha : h[a]? = some (.inr (10, [.null, .null, .int 0]))) (hq : ∀ h', h'.length = n + 2 → (∀ i, i < n → i ≠ a → h'[i]? = h[i]?) → h'[a]? = some (.inr (10, [.ref (n + 0), .ref (n + 1), .int 0])) → h'[n + 0]? = some (aL 12 (fun _ => 0)) → h'[n + 1]? = some (aI 12 (fun _ => 0)) → Q none h') : am_KA lx d 121 [.ref a] h Q := by
  have hlt : a < n := by rw [← hn]; exact (List.getElem?_eq_some_iff.mp ha).1
  obtain ⟨e, rfl⟩ : ∃ e, d = e + 1 := ⟨d - 1, by omega⟩
  have G : am_GK (am_KA lx e) cd_121 := ⟨am_KA_m lx e, cm_121⟩
  refine am_KA_in (by decide) (Nat.le_of_ble_eq_true rfl) ?_
  show am_Go (am_KA lx e) (am_fetch cd_121) Q 0 [some (.ref a)] [] h 0 0
  have A0 := ha
  have L0 : h.length = n + 0 := hn
  have F0 : ∀ i, i < n → i ≠ a → h[i]? = h[i]? := fun _ _ _ => rfl
  refine r_ra G (pn := 1) rfl rfl rfl ?_
  refine r_obj G (pn := 4) rfl rfl (Nat.le_of_ble_eq_true rfl) ?_
  refine r_ra G (pn := 5) rfl rfl rfl ?_
  refine r_ic G (pn := 7) rfl rfl  ?_
  refine r_newl G (pn := 9) rfl rfl (by decide) (by decide) (Nat.le_of_ble_eq_true rfl) (Nat.le_of_ble_eq_true rfl) ?_
  rw [L0]
  refine r_putr G (pn := 12) rfl rfl (ap_lt A0) (Nat.le_of_ble_eq_true rfl) rfl rfl ?_
  show am_Go _ _ _ 12 [some (.ref a)] [] (((h ++ [aL 12 (fun _ => 0)]).set a (.inr (10, [.ref (n + 0), .null, .int 0] ))) : am_H) _ _
  have A1 : (((h ++ [aL 12 (fun _ => 0)]).set a (.inr (10, [.ref (n + 0), .null, .int 0]))) : am_H)[a]? = some (.inr (10, [.ref (n + 0), .null, .int 0])) := am_eq (ap_lt A0)
  have L1 : (((h ++ [aL 12 (fun _ => 0)]).set a (.inr (10, [.ref (n + 0), .null, .int 0]))) : am_H).length = n + 1 := by rw [List.length_set, List.length_append, L0]; rfl
  have F1 : ∀ i, i < n → i ≠ a → (((h ++ [aL 12 (fun _ => 0)]).set a (.inr (10, [.ref (n + 0), .null, .int 0]))) : am_H)[i]? = h[i]? := fun i h1 h2 => (ap_fr (by omega) h2).trans (F0 i h1 h2)
  have C0 : (((h ++ [aL 12 (fun _ => 0)]).set a (.inr (10, [.ref (n + 0), .null, .int 0]))) : am_H)[n + 0]? = some (aL 12 (fun _ => 0)) := by rw [List.getElem?_set_ne (by omega), ← L0]; exact ap_eq
  generalize (((h ++ [aL 12 (fun _ => 0)]).set a (.inr (10, [.ref (n + 0), .null, .int 0]))) : am_H) = h1 at A1 L1 F1 C0
  refine r_ra G (pn := 13) rfl rfl rfl ?_
  refine r_ic G (pn := 15) rfl rfl  ?_
  refine r_newi G (pn := 17) rfl rfl (by decide) (by decide) (Nat.le_of_ble_eq_true rfl) (Nat.le_of_ble_eq_true rfl) ?_
  rw [L1]
  refine r_putr G (pn := 20) rfl rfl (ap_lt A1) (Nat.le_of_ble_eq_true rfl) rfl rfl ?_
  show am_Go _ _ _ 20 [some (.ref a)] [] (((h1 ++ [aI 12 (fun _ => 0)]).set a (.inr (10, [.ref (n + 0), .ref (n + 1), .int 0] ))) : am_H) _ _
  have A2 : (((h1 ++ [aI 12 (fun _ => 0)]).set a (.inr (10, [.ref (n + 0), .ref (n + 1), .int 0]))) : am_H)[a]? = some (.inr (10, [.ref (n + 0), .ref (n + 1), .int 0])) := am_eq (ap_lt A1)
  have L2 : (((h1 ++ [aI 12 (fun _ => 0)]).set a (.inr (10, [.ref (n + 0), .ref (n + 1), .int 0]))) : am_H).length = n + 2 := by rw [List.length_set, List.length_append, L1]; rfl
  have F2 : ∀ i, i < n → i ≠ a → (((h1 ++ [aI 12 (fun _ => 0)]).set a (.inr (10, [.ref (n + 0), .ref (n + 1), .int 0]))) : am_H)[i]? = h[i]? := fun i h1 h2 => (ap_fr (by omega) h2).trans (F1 i h1 h2)
  have C1 : (((h1 ++ [aI 12 (fun _ => 0)]).set a (.inr (10, [.ref (n + 0), .ref (n + 1), .int 0]))) : am_H)[n + 1]? = some (aI 12 (fun _ => 0)) := by rw [List.getElem?_set_ne (by omega), ← L1]; exact ap_eq
  have C0 : (((h1 ++ [aI 12 (fun _ => 0)]).set a (.inr (10, [.ref (n + 0), .ref (n + 1), .int 0]))) : am_H)[n + 0]? = some (aL 12 (fun _ => 0)) := (ap_fr (by omega) (by omega)).trans C0
  generalize (((h1 ++ [aI 12 (fun _ => 0)]).set a (.inr (10, [.ref (n + 0), .ref (n + 1), .int 0]))) : am_H) = h2 at A2 L2 F2 C0 C1
  exact r_vret G rfl (hq h2 L2 F2 A2 C0 C1)
end
