theorem WC_0 {c : Nat → Nat} {o : Nat → Nat → Nat} {cnt : Nat} (h5 : cnt ≤ 5) (hc : ∀ i, i < cnt → c i < 4) (ho : ∀ i j, i < cnt → j < cnt → o i j < 4) : WC c o id cnt / 1073741824 = cnt := by
  have := WC_b h5 hc ho
  omega
theorem WC_c {c : Nat → Nat} {o : Nat → Nat → Nat} {cnt i : Nat} (h5 : cnt ≤ 5) (hc : ∀ i, i < cnt → c i < 4) (ho : ∀ i j, i < cnt → j < cnt → o i j < 4) (hi : i < cnt) : WC c o id cnt / 2 ^ (20 + 2 * (cnt - 1 - i)) % 4 = c i := by
  have b1 := vl_lt (od := o) (srt := id) (sg := id) h5 ho (p := cnt) (Nat.le_refl _) (fun q hq => hq)
  have ht := tri_le h5
  unfold WC
  generalize vl o id id cnt = v at b1 ⊢
  have hv : v < 1048576 := by omega
  clear b1 ht ho
  have : cnt = 1 ∨ cnt = 2 ∨ cnt = 3 ∨ cnt = 4 ∨ cnt = 5 := by omega
  rcases this with rfl | rfl | rfl | rfl | rfl
  · have c0 := hc 0 (by omega)
    obtain rfl : i = 0 := by omega
    simp only [e4, id]; omega
  · have c0 := hc 0 (by omega)
    have c1 := hc 1 (by omega)
    have : i = 0 ∨ i = 1 := by omega
    rcases this with rfl | rfl <;> simp only [e4, id] <;> omega
  · have c0 := hc 0 (by omega)
    have c1 := hc 1 (by omega)
    have c2 := hc 2 (by omega)
    have : i = 0 ∨ i = 1 ∨ i = 2 := by omega
    rcases this with rfl | rfl | rfl <;> simp only [e4, id] <;> omega
  · have c0 := hc 0 (by omega)
    have c1 := hc 1 (by omega)
    have c2 := hc 2 (by omega)
    have c3 := hc 3 (by omega)
    have : i = 0 ∨ i = 1 ∨ i = 2 ∨ i = 3 := by omega
    rcases this with rfl | rfl | rfl | rfl <;> simp only [e4, id] <;> omega
  · have c0 := hc 0 (by omega)
    have c1 := hc 1 (by omega)
    have c2 := hc 2 (by omega)
    have c3 := hc 3 (by omega)
    have c4 := hc 4 (by omega)
    have : i = 0 ∨ i = 1 ∨ i = 2 ∨ i = 3 ∨ i = 4 := by omega
    rcases this with rfl | rfl | rfl | rfl | rfl <;> simp only [e4, id] <;> omega
theorem WC_o {c : Nat → Nat} {o : Nat → Nat → Nat} {cnt i j : Nat} (h5 : cnt ≤ 5) (hc : ∀ i, i < cnt → c i < 4) (ho : ∀ i j, i < cnt → j < cnt → o i j < 4) (hij : i < j) (hj : j < cnt) : WC c o id cnt / 2 ^ (2 * (cnt * (cnt - 1) / 2 - 1 - (j * (j - 1) / 2 + i))) % 4 = o i j := by
  unfold WC
  generalize hE : e4 (fun q => c (id q)) cnt = E
  clear hE hc
  have : cnt = 2 ∨ cnt = 3 ∨ cnt = 4 ∨ cnt = 5 := by omega
  rcases this with rfl | rfl | rfl | rfl
  · have o01 := ho 0 1 (by omega) (by omega)
    have : (i = 0 ∧ j = 1) := by omega
    rcases this with ⟨rfl, rfl⟩ <;> simp only [vl, wo, id] <;> omega
  · have o01 := ho 0 1 (by omega) (by omega)
    have o02 := ho 0 2 (by omega) (by omega)
    have o12 := ho 1 2 (by omega) (by omega)
    have : (i = 0 ∧ j = 1) ∨ (i = 0 ∧ j = 2) ∨ (i = 1 ∧ j = 2) := by omega
    rcases this with ⟨rfl, rfl⟩ | ⟨rfl, rfl⟩ | ⟨rfl, rfl⟩ <;> simp only [vl, wo, id] <;> omega
  · have o01 := ho 0 1 (by omega) (by omega)
    have o02 := ho 0 2 (by omega) (by omega)
    have o12 := ho 1 2 (by omega) (by omega)
    have o03 := ho 0 3 (by omega) (by omega)
    have o13 := ho 1 3 (by omega) (by omega)
    have o23 := ho 2 3 (by omega) (by omega)
    have : (i = 0 ∧ j = 1) ∨ (i = 0 ∧ j = 2) ∨ (i = 1 ∧ j = 2) ∨ (i = 0 ∧ j = 3) ∨ (i = 1 ∧ j = 3) ∨ (i = 2 ∧ j = 3) := by omega
    rcases this with ⟨rfl, rfl⟩ | ⟨rfl, rfl⟩ | ⟨rfl, rfl⟩ | ⟨rfl, rfl⟩ | ⟨rfl, rfl⟩ | ⟨rfl, rfl⟩ <;> simp only [vl, wo, id] <;> omega
  · have o01 := ho 0 1 (by omega) (by omega)
    have o02 := ho 0 2 (by omega) (by omega)
    have o12 := ho 1 2 (by omega) (by omega)
    have o03 := ho 0 3 (by omega) (by omega)
    have o13 := ho 1 3 (by omega) (by omega)
    have o23 := ho 2 3 (by omega) (by omega)
    have o04 := ho 0 4 (by omega) (by omega)
    have o14 := ho 1 4 (by omega) (by omega)
    have o24 := ho 2 4 (by omega) (by omega)
    have o34 := ho 3 4 (by omega) (by omega)
    have : (i = 0 ∧ j = 1) ∨ (i = 0 ∧ j = 2) ∨ (i = 1 ∧ j = 2) ∨ (i = 0 ∧ j = 3) ∨ (i = 1 ∧ j = 3) ∨ (i = 2 ∧ j = 3) ∨ (i = 0 ∧ j = 4) ∨ (i = 1 ∧ j = 4) ∨ (i = 2 ∧ j = 4) ∨ (i = 3 ∧ j = 4) := by omega
    rcases this with ⟨rfl, rfl⟩ | ⟨rfl, rfl⟩ | ⟨rfl, rfl⟩ | ⟨rfl, rfl⟩ | ⟨rfl, rfl⟩ | ⟨rfl, rfl⟩ | ⟨rfl, rfl⟩ | ⟨rfl, rfl⟩ | ⟨rfl, rfl⟩ | ⟨rfl, rfl⟩ <;> simp only [vl, wo, id] <;> omega
theorem WM_0 {c : Nat → Nat} {o : Nat → Nat → Nat} {cnt : Nat} (h5 : cnt ≤ 5) (hc : ∀ i, i < cnt → c i < 4) (ho : ∀ i j, i < cnt → j < cnt → o i j < 4) : mdig (WM c o id cnt) 0 = cnt := by
  have := WM_b h5 hc ho
  have e15 : (8 : Nat) ^ 15 = 35184372088832 := by decide
  rw [e15] at this
  unfold mdig
  show WM c o id cnt / 35184372088832 % 8 = cnt
  omega
theorem WM_c {c : Nat → Nat} {o : Nat → Nat → Nat} {cnt i : Nat} (h5 : cnt ≤ 5) (hc : ∀ i, i < cnt → c i < 4) (ho : ∀ i j, i < cnt → j < cnt → o i j < 4) (hi : i < cnt) : mdig (WM c o id cnt) (1 + i) = c i := by
  unfold mdig WM
  have : cnt = 1 ∨ cnt = 2 ∨ cnt = 3 ∨ cnt = 4 ∨ cnt = 5 := by omega
  rcases this with rfl | rfl | rfl | rfl | rfl
  · have c0 := hc 0 (by omega)
    have : i = 0 := by omega
    rcases this with rfl <;> simp only [mC, vl8, wo8, id, tri] <;> omega
  · have c0 := hc 0 (by omega)
    have c1 := hc 1 (by omega)
    have o01 := ho 0 1 (by omega) (by omega)
    have : i = 0 ∨ i = 1 := by omega
    rcases this with rfl | rfl <;> simp only [mC, vl8, wo8, id, tri] <;> omega
  · have c0 := hc 0 (by omega)
    have c1 := hc 1 (by omega)
    have c2 := hc 2 (by omega)
    have o01 := ho 0 1 (by omega) (by omega)
    have o02 := ho 0 2 (by omega) (by omega)
    have o12 := ho 1 2 (by omega) (by omega)
    have : i = 0 ∨ i = 1 ∨ i = 2 := by omega
    rcases this with rfl | rfl | rfl <;> simp only [mC, vl8, wo8, id, tri] <;> omega
  · have c0 := hc 0 (by omega)
    have c1 := hc 1 (by omega)
    have c2 := hc 2 (by omega)
    have c3 := hc 3 (by omega)
    have o01 := ho 0 1 (by omega) (by omega)
    have o02 := ho 0 2 (by omega) (by omega)
    have o12 := ho 1 2 (by omega) (by omega)
    have o03 := ho 0 3 (by omega) (by omega)
    have o13 := ho 1 3 (by omega) (by omega)
    have o23 := ho 2 3 (by omega) (by omega)
    have : i = 0 ∨ i = 1 ∨ i = 2 ∨ i = 3 := by omega
    rcases this with rfl | rfl | rfl | rfl <;> simp only [mC, vl8, wo8, id, tri] <;> omega
  · have c0 := hc 0 (by omega)
    have c1 := hc 1 (by omega)
    have c2 := hc 2 (by omega)
    have c3 := hc 3 (by omega)
    have c4 := hc 4 (by omega)
    have o01 := ho 0 1 (by omega) (by omega)
    have o02 := ho 0 2 (by omega) (by omega)
    have o12 := ho 1 2 (by omega) (by omega)
    have o03 := ho 0 3 (by omega) (by omega)
    have o13 := ho 1 3 (by omega) (by omega)
    have o23 := ho 2 3 (by omega) (by omega)
    have o04 := ho 0 4 (by omega) (by omega)
    have o14 := ho 1 4 (by omega) (by omega)
    have o24 := ho 2 4 (by omega) (by omega)
    have o34 := ho 3 4 (by omega) (by omega)
    have : i = 0 ∨ i = 1 ∨ i = 2 ∨ i = 3 ∨ i = 4 := by omega
    rcases this with rfl | rfl | rfl | rfl | rfl <;> simp only [mC, vl8, wo8, id, tri] <;> omega
theorem WM_o {c : Nat → Nat} {o : Nat → Nat → Nat} {cnt i j : Nat} (h5 : cnt ≤ 5) (hc : ∀ i, i < cnt → c i < 4) (ho : ∀ i j, i < cnt → j < cnt → o i j < 4) (hij : i < j) (hj : j < cnt) : mdig (WM c o id cnt) (1 + cnt + j * (j - 1) / 2 + i) = o i j := by
  unfold mdig WM
  generalize mC c id cnt cnt = E
  clear hc
  have : cnt = 2 ∨ cnt = 3 ∨ cnt = 4 ∨ cnt = 5 := by omega
  rcases this with rfl | rfl | rfl | rfl
  · have o01 := ho 0 1 (by omega) (by omega)
    have : (i = 0 ∧ j = 1) := by omega
    rcases this with ⟨rfl, rfl⟩ <;> simp only [vl8, wo8, id, tri] <;> omega
  · have o01 := ho 0 1 (by omega) (by omega)
    have o02 := ho 0 2 (by omega) (by omega)
    have o12 := ho 1 2 (by omega) (by omega)
    have : (i = 0 ∧ j = 1) ∨ (i = 0 ∧ j = 2) ∨ (i = 1 ∧ j = 2) := by omega
    rcases this with ⟨rfl, rfl⟩ | ⟨rfl, rfl⟩ | ⟨rfl, rfl⟩ <;> simp only [vl8, wo8, id, tri] <;> omega
  · have o01 := ho 0 1 (by omega) (by omega)
    have o02 := ho 0 2 (by omega) (by omega)
    have o12 := ho 1 2 (by omega) (by omega)
    have o03 := ho 0 3 (by omega) (by omega)
    have o13 := ho 1 3 (by omega) (by omega)
    have o23 := ho 2 3 (by omega) (by omega)
    have : (i = 0 ∧ j = 1) ∨ (i = 0 ∧ j = 2) ∨ (i = 1 ∧ j = 2) ∨ (i = 0 ∧ j = 3) ∨ (i = 1 ∧ j = 3) ∨ (i = 2 ∧ j = 3) := by omega
    rcases this with ⟨rfl, rfl⟩ | ⟨rfl, rfl⟩ | ⟨rfl, rfl⟩ | ⟨rfl, rfl⟩ | ⟨rfl, rfl⟩ | ⟨rfl, rfl⟩ <;> simp only [vl8, wo8, id, tri] <;> omega
  · have o01 := ho 0 1 (by omega) (by omega)
    have o02 := ho 0 2 (by omega) (by omega)
    have o12 := ho 1 2 (by omega) (by omega)
    have o03 := ho 0 3 (by omega) (by omega)
    have o13 := ho 1 3 (by omega) (by omega)
    have o23 := ho 2 3 (by omega) (by omega)
    have o04 := ho 0 4 (by omega) (by omega)
    have o14 := ho 1 4 (by omega) (by omega)
    have o24 := ho 2 4 (by omega) (by omega)
    have o34 := ho 3 4 (by omega) (by omega)
    have : (i = 0 ∧ j = 1) ∨ (i = 0 ∧ j = 2) ∨ (i = 1 ∧ j = 2) ∨ (i = 0 ∧ j = 3) ∨ (i = 1 ∧ j = 3) ∨ (i = 2 ∧ j = 3) ∨ (i = 0 ∧ j = 4) ∨ (i = 1 ∧ j = 4) ∨ (i = 2 ∧ j = 4) ∨ (i = 3 ∧ j = 4) := by omega
    rcases this with ⟨rfl, rfl⟩ | ⟨rfl, rfl⟩ | ⟨rfl, rfl⟩ | ⟨rfl, rfl⟩ | ⟨rfl, rfl⟩ | ⟨rfl, rfl⟩ | ⟨rfl, rfl⟩ | ⟨rfl, rfl⟩ | ⟨rfl, rfl⟩ | ⟨rfl, rfl⟩ <;> simp only [vl8, wo8, id, tri] <;> omega
