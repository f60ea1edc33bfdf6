section
variable {lx : am_Lx} {mt : Nat → am_Mt} {own nm : String} {cc : ByteArray} {nL mc ms pc : Nat} {ret : Option FieldType}
theorem am_sd_iconst {n : Int} {v : Int32} (hdg : decode cc pc = .ok (.iconst n, 1)) (hv : Int32.ofInt n = v) : am_Sd lx mt own nm cc nL mc ms ret pc (am_ic v 1) := by
  intro p l e R s m args below meth c D cA S H0 Qw K Q X Cx Ks Rs hX ls st h k z hT H locs lsA hR hS hl hk hz
  obtain ⟨hx, hb, hml, hown, hG, hE, hnm, hH0, hfr, hlo, hRc, hRs⟩ := Cx
  exact lv_iconst hx hb hdg hv (hX _ _ _ _ _ _ hT H locs lsA hR hS hl hk hz)
theorem am_sd_bipush {n : Int} {v : Int32} (hdg : decode cc pc = .ok (.bipush n, 2)) (hv : (Int8.ofInt n).toInt32 = v) : am_Sd lx mt own nm cc nL mc ms ret pc (am_ic v 2) := by
  intro p l e R s m args below meth c D cA S H0 Qw K Q X Cx Ks Rs hX ls st h k z hT H locs lsA hR hS hl hk hz
  obtain ⟨hx, hb, hml, hown, hG, hE, hnm, hH0, hfr, hlo, hRc, hRs⟩ := Cx
  exact lv_bipush hx hb hdg hv (hX _ _ _ _ _ _ hT H locs lsA hR hS hl hk hz)
theorem am_sd_sipush {n : Int} {v : Int32} (hdg : decode cc pc = .ok (.sipush n, 3)) (hv : (Int16.ofInt n).toInt32 = v) : am_Sd lx mt own nm cc nL mc ms ret pc (am_ic v 3) := by
  intro p l e R s m args below meth c D cA S H0 Qw K Q X Cx Ks Rs hX ls st h k z hT H locs lsA hR hS hl hk hz
  obtain ⟨hx, hb, hml, hown, hG, hE, hnm, hH0, hfr, hlo, hRc, hRs⟩ := Cx
  exact lv_sipush hx hb hdg hv (hX _ _ _ _ _ _ hT H locs lsA hR hS hl hk hz)
theorem am_sd_ldc {index : Nat} {v : Int32} (hw : Cond.constant own index v ∈ am_G) (hdg : decode cc pc = .ok (.ldc index, 2)) : am_Sd lx mt own nm cc nL mc ms ret pc (am_ic v 2) := by
  intro p l e R s m args below meth c D cA S H0 Qw K Q X Cx Ks Rs hX ls st h k z hT H locs lsA hR hS hl hk hz
  obtain ⟨hx, hb, hml, hown, hG, hE, hnm, hH0, hfr, hlo, hRc, hRs⟩ := Cx
  exact lv_ldc hx hb hown (hG _ hw) hdg (hX _ _ _ _ _ _ hT H locs lsA hR hS hl hk hz)
theorem am_sd_ldc2 {index : Nat} {v : Int64} (hw : Cond.constantLong own index v ∈ am_G) (hdg : decode cc pc = .ok (.ldc2_w index, 3)) : am_Sd lx mt own nm cc nL mc ms ret pc (am_lc v 3) := by
  intro p l e R s m args below meth c D cA S H0 Qw K Q X Cx Ks Rs hX ls st h k z hT H locs lsA hR hS hl hk hz
  obtain ⟨hx, hb, hml, hown, hG, hE, hnm, hH0, hfr, hlo, hRc, hRs⟩ := Cx
  exact lv_ldc2 hx hb hown (hG _ hw) hdg (hX _ _ _ _ _ _ hT H locs lsA hR hS hl hk hz)
theorem am_sd_iload_n {j : Fin 4} {i : Nat} (hdg : decode cc pc = .ok (.iload_n j, 1)) (hi : (j : Nat) = i) : am_Sd lx mt own nm cc nL mc ms ret pc (am_il i 1) := by
  intro p l e R s m args below meth c D cA S H0 Qw K Q X Cx Ks Rs hX ls st h k z hT H locs lsA hR hS hl hk hz
  obtain ⟨hx, hb, hml, hown, hG, hE, hnm, hH0, hfr, hlo, hRc, hRs⟩ := Cx
  unfold am_il at hT
  split at hT
  · next x heq => exact lv_iload_n hx hb hdg hi (hl.at heq) (hX _ _ _ _ _ _ hT H locs lsA hR hS hl hk hz)
  · exact hT.elim
theorem am_sd_iload {i : Nat} (hdg : decode cc pc = .ok (.iload i, 2)) : am_Sd lx mt own nm cc nL mc ms ret pc (am_il i 2) := by
  intro p l e R s m args below meth c D cA S H0 Qw K Q X Cx Ks Rs hX ls st h k z hT H locs lsA hR hS hl hk hz
  obtain ⟨hx, hb, hml, hown, hG, hE, hnm, hH0, hfr, hlo, hRc, hRs⟩ := Cx
  unfold am_il at hT
  split at hT
  · next x heq => exact lv_iload hx hb hdg (hl.at heq) (hX _ _ _ _ _ _ hT H locs lsA hR hS hl hk hz)
  · exact hT.elim
theorem am_sd_lload_n {j : Fin 4} {i : Nat} (hdg : decode cc pc = .ok (.lload_n j, 1)) (hi : (j : Nat) = i) : am_Sd lx mt own nm cc nL mc ms ret pc (am_ll i 1) := by
  intro p l e R s m args below meth c D cA S H0 Qw K Q X Cx Ks Rs hX ls st h k z hT H locs lsA hR hS hl hk hz
  obtain ⟨hx, hb, hml, hown, hG, hE, hnm, hH0, hfr, hlo, hRc, hRs⟩ := Cx
  unfold am_ll at hT
  split at hT
  · next x heq => exact lv_lload_n hx hb hdg hi (hl.at heq) (hX _ _ _ _ _ _ hT H locs lsA hR hS hl hk hz)
  · exact hT.elim
theorem am_sd_lload {i : Nat} (hdg : decode cc pc = .ok (.lload i, 2)) : am_Sd lx mt own nm cc nL mc ms ret pc (am_ll i 2) := by
  intro p l e R s m args below meth c D cA S H0 Qw K Q X Cx Ks Rs hX ls st h k z hT H locs lsA hR hS hl hk hz
  obtain ⟨hx, hb, hml, hown, hG, hE, hnm, hH0, hfr, hlo, hRc, hRs⟩ := Cx
  unfold am_ll at hT
  split at hT
  · next x heq => exact lv_lload hx hb hdg (hl.at heq) (hX _ _ _ _ _ _ hT H locs lsA hR hS hl hk hz)
  · exact hT.elim
theorem am_sd_aload_n {j : Fin 4} {i : Nat} (hdg : decode cc pc = .ok (.aload_n j, 1)) (hi : (j : Nat) = i) : am_Sd lx mt own nm cc nL mc ms ret pc (am_ra i 1) := by
  intro p l e R s m args below meth c D cA S H0 Qw K Q X Cx Ks Rs hX ls st h k z hT H locs lsA hR hS hl hk hz
  obtain ⟨hx, hb, hml, hown, hG, hE, hnm, hH0, hfr, hlo, hRc, hRs⟩ := Cx
  unfold am_ra at hT
  split at hT
  · next x heq => exact lv_aload_n hx hb hdg hi (hl.at heq) (hX _ _ _ _ _ _ hT H locs lsA hR hS hl hk hz)
  · next x heq => exact lv_aload_n hx hb hdg hi (hl.at heq) (hX _ _ _ _ _ _ hT H locs lsA hR hS hl hk hz)
  · exact hT.elim
theorem am_sd_aload {i : Nat} (hdg : decode cc pc = .ok (.aload i, 2)) : am_Sd lx mt own nm cc nL mc ms ret pc (am_ra i 2) := by
  intro p l e R s m args below meth c D cA S H0 Qw K Q X Cx Ks Rs hX ls st h k z hT H locs lsA hR hS hl hk hz
  obtain ⟨hx, hb, hml, hown, hG, hE, hnm, hH0, hfr, hlo, hRc, hRs⟩ := Cx
  unfold am_ra at hT
  split at hT
  · next x heq => exact lv_aload hx hb hdg (hl.at heq) (hX _ _ _ _ _ _ hT H locs lsA hR hS hl hk hz)
  · next x heq => exact lv_aload hx hb hdg (hl.at heq) (hX _ _ _ _ _ _ hT H locs lsA hR hS hl hk hz)
  · exact hT.elim
theorem am_sd_istore_n {j : Fin 4} {i : Nat} (hdg : decode cc pc = .ok (.istore_n j, 1)) (hi : (j : Nat) = i) : am_Sd lx mt own nm cc nL mc ms ret pc (am_is i 1) := by
  intro p l e R s m args below meth c D cA S H0 Qw K Q X Cx Ks Rs hX ls st h k z hT H locs lsA hR hS hl hk hz
  obtain ⟨hx, hb, hml, hown, hG, hE, hnm, hH0, hfr, hlo, hRc, hRs⟩ := Cx
  unfold am_is at hT
  split at hT
  · next x r => exact lv_istore_n hx hb hdg hi hl.has (by have := hT.1; have := hl.2.1; omega) rfl (fun ls' hl' => hX _ _ _ _ _ _ hT.2 H locs ls' hR hS (am_lv.s1 (by have := hT.1; have := hl.2.1; omega) hl hl') hk hz)
  · exact hT.elim
theorem am_sd_istore {i : Nat} (hdg : decode cc pc = .ok (.istore i, 2)) : am_Sd lx mt own nm cc nL mc ms ret pc (am_is i 2) := by
  intro p l e R s m args below meth c D cA S H0 Qw K Q X Cx Ks Rs hX ls st h k z hT H locs lsA hR hS hl hk hz
  obtain ⟨hx, hb, hml, hown, hG, hE, hnm, hH0, hfr, hlo, hRc, hRs⟩ := Cx
  unfold am_is at hT
  split at hT
  · next x r => exact lv_istore hx hb hdg hl.has (by have := hT.1; have := hl.2.1; omega) rfl (fun ls' hl' => hX _ _ _ _ _ _ hT.2 H locs ls' hR hS (am_lv.s1 (by have := hT.1; have := hl.2.1; omega) hl hl') hk hz)
  · exact hT.elim
theorem am_sd_astore_n {j : Fin 4} {i : Nat} (hdg : decode cc pc = .ok (.astore_n j, 1)) (hi : (j : Nat) = i) : am_Sd lx mt own nm cc nL mc ms ret pc (am_rs i 1) := by
  intro p l e R s m args below meth c D cA S H0 Qw K Q X Cx Ks Rs hX ls st h k z hT H locs lsA hR hS hl hk hz
  obtain ⟨hx, hb, hml, hown, hG, hE, hnm, hH0, hfr, hlo, hRc, hRs⟩ := Cx
  unfold am_rs at hT
  split at hT
  · next x r => exact lv_astore_n hx hb hdg hi hl.has (by have := hT.1; have := hl.2.1; omega) rfl (fun ls' hl' => hX _ _ _ _ _ _ hT.2 H locs ls' hR hS (am_lv.s1 (by have := hT.1; have := hl.2.1; omega) hl hl') hk hz)
  · exact hT.elim
theorem am_sd_astore {i : Nat} (hdg : decode cc pc = .ok (.astore i, 2)) : am_Sd lx mt own nm cc nL mc ms ret pc (am_rs i 2) := by
  intro p l e R s m args below meth c D cA S H0 Qw K Q X Cx Ks Rs hX ls st h k z hT H locs lsA hR hS hl hk hz
  obtain ⟨hx, hb, hml, hown, hG, hE, hnm, hH0, hfr, hlo, hRc, hRs⟩ := Cx
  unfold am_rs at hT
  split at hT
  · next x r => exact lv_astore hx hb hdg hl.has (by have := hT.1; have := hl.2.1; omega) rfl (fun ls' hl' => hX _ _ _ _ _ _ hT.2 H locs ls' hR hS (am_lv.s1 (by have := hT.1; have := hl.2.1; omega) hl hl') hk hz)
  · exact hT.elim
theorem am_sd_lstore_n {j : Fin 4} {i : Nat} (hdg : decode cc pc = .ok (.lstore_n j, 1)) (hi : (j : Nat) = i) : am_Sd lx mt own nm cc nL mc ms ret pc (am_ls i 1) := by
  intro p l e R s m args below meth c D cA S H0 Qw K Q X Cx Ks Rs hX ls st h k z hT H locs lsA hR hS hl hk hz
  obtain ⟨hx, hb, hml, hown, hG, hE, hnm, hH0, hfr, hlo, hRc, hRs⟩ := Cx
  unfold am_ls at hT
  split at hT
  · next x r => exact lv_lstore_n hx hb hdg hi hl.has (by have := hT.1; have := hl.2.1; omega) rfl (fun ls' hl' => hX _ _ _ _ _ _ hT.2 H locs ls' hR hS (am_lv.s2 (by have := hT.1; have := hl.2.1; omega) hl hl') hk hz)
  · exact hT.elim
theorem am_sd_lstore {i : Nat} (hdg : decode cc pc = .ok (.lstore i, 2)) : am_Sd lx mt own nm cc nL mc ms ret pc (am_ls i 2) := by
  intro p l e R s m args below meth c D cA S H0 Qw K Q X Cx Ks Rs hX ls st h k z hT H locs lsA hR hS hl hk hz
  obtain ⟨hx, hb, hml, hown, hG, hE, hnm, hH0, hfr, hlo, hRc, hRs⟩ := Cx
  unfold am_ls at hT
  split at hT
  · next x r => exact lv_lstore hx hb hdg hl.has (by have := hT.1; have := hl.2.1; omega) rfl (fun ls' hl' => hX _ _ _ _ _ _ hT.2 H locs ls' hR hS (am_lv.s2 (by have := hT.1; have := hl.2.1; omega) hl hl') hk hz)
  · exact hT.elim
theorem am_sd_iinc {i : Nat} {n : Int} {v : Int32} (hdg : decode cc pc = .ok (.iinc i n, 3)) (hv : Int32.ofInt n = v) : am_Sd lx mt own nm cc nL mc ms ret pc (am_inc i v) := by
  intro p l e R s m args below meth c D cA S H0 Qw K Q X Cx Ks Rs hX ls st h k z hT H locs lsA hR hS hl hk hz
  obtain ⟨hx, hb, hml, hown, hG, hE, hnm, hH0, hfr, hlo, hRc, hRs⟩ := Cx
  subst hv
  unfold am_inc at hT
  split at hT
  · next x heq =>
    obtain ⟨q, hq⟩ := List.getElem?_of_mem (am_lst_mem.mpr ⟨.int x, am_al_some heq, rfl⟩ : (i, Value.int x) ∈ am_lst S H0.size ls)
    exact lv_iinc hx hb hdg hl.has hq rfl (by have := hT.1; have := hl.2.1; omega) rfl (fun ls' hl' => hX _ _ _ _ _ _ hT.2 H locs ls' hR hS (am_lv.s1 (by have := hT.1; have := hl.2.1; omega) hl hl') hk hz)
  · exact hT.elim
theorem am_sd_iadd (hdg : decode cc pc = .ok (.iadd, 1)) : am_Sd lx mt own nm cc nL mc ms ret pc (am_ib (fun x y => x + y)) := by
  intro p l e R s m args below meth c D cA S H0 Qw K Q X Cx Ks Rs hX ls st h k z hT H locs lsA hR hS hl hk hz
  obtain ⟨hx, hb, hml, hown, hG, hE, hnm, hH0, hfr, hlo, hRc, hRs⟩ := Cx
  unfold am_ib at hT
  split at hT
  · next y x r => exact lv_iadd hx hb hdg (hX _ _ _ _ _ _ hT H locs lsA hR hS hl hk hz)
  · exact hT.elim
theorem am_sd_isub (hdg : decode cc pc = .ok (.isub, 1)) : am_Sd lx mt own nm cc nL mc ms ret pc (am_ib (fun x y => x - y)) := by
  intro p l e R s m args below meth c D cA S H0 Qw K Q X Cx Ks Rs hX ls st h k z hT H locs lsA hR hS hl hk hz
  obtain ⟨hx, hb, hml, hown, hG, hE, hnm, hH0, hfr, hlo, hRc, hRs⟩ := Cx
  unfold am_ib at hT
  split at hT
  · next y x r => exact lv_isub hx hb hdg (hX _ _ _ _ _ _ hT H locs lsA hR hS hl hk hz)
  · exact hT.elim
theorem am_sd_imul (hdg : decode cc pc = .ok (.imul, 1)) : am_Sd lx mt own nm cc nL mc ms ret pc (am_ib (fun x y => x * y)) := by
  intro p l e R s m args below meth c D cA S H0 Qw K Q X Cx Ks Rs hX ls st h k z hT H locs lsA hR hS hl hk hz
  obtain ⟨hx, hb, hml, hown, hG, hE, hnm, hH0, hfr, hlo, hRc, hRs⟩ := Cx
  unfold am_ib at hT
  split at hT
  · next y x r => exact lv_imul hx hb hdg (hX _ _ _ _ _ _ hT H locs lsA hR hS hl hk hz)
  · exact hT.elim
theorem am_sd_iand (hdg : decode cc pc = .ok (.iand, 1)) : am_Sd lx mt own nm cc nL mc ms ret pc (am_ib (fun x y => x &&& y)) := by
  intro p l e R s m args below meth c D cA S H0 Qw K Q X Cx Ks Rs hX ls st h k z hT H locs lsA hR hS hl hk hz
  obtain ⟨hx, hb, hml, hown, hG, hE, hnm, hH0, hfr, hlo, hRc, hRs⟩ := Cx
  unfold am_ib at hT
  split at hT
  · next y x r => exact lv_iand hx hb hdg (hX _ _ _ _ _ _ hT H locs lsA hR hS hl hk hz)
  · exact hT.elim
theorem am_sd_ior (hdg : decode cc pc = .ok (.ior, 1)) : am_Sd lx mt own nm cc nL mc ms ret pc (am_ib (fun x y => x ||| y)) := by
  intro p l e R s m args below meth c D cA S H0 Qw K Q X Cx Ks Rs hX ls st h k z hT H locs lsA hR hS hl hk hz
  obtain ⟨hx, hb, hml, hown, hG, hE, hnm, hH0, hfr, hlo, hRc, hRs⟩ := Cx
  unfold am_ib at hT
  split at hT
  · next y x r => exact lv_ior hx hb hdg (hX _ _ _ _ _ _ hT H locs lsA hR hS hl hk hz)
  · exact hT.elim
theorem am_sd_ishl (hdg : decode cc pc = .ok (.ishl, 1)) : am_Sd lx mt own nm cc nL mc ms ret pc (am_ib (fun x y => x <<< (y &&& 31))) := by
  intro p l e R s m args below meth c D cA S H0 Qw K Q X Cx Ks Rs hX ls st h k z hT H locs lsA hR hS hl hk hz
  obtain ⟨hx, hb, hml, hown, hG, hE, hnm, hH0, hfr, hlo, hRc, hRs⟩ := Cx
  unfold am_ib at hT
  split at hT
  · next y x r => exact lv_ishl hx hb hdg (hX _ _ _ _ _ _ hT H locs lsA hR hS hl hk hz)
  · exact hT.elim
theorem am_sd_ishr (hdg : decode cc pc = .ok (.ishr, 1)) : am_Sd lx mt own nm cc nL mc ms ret pc (am_ib (fun x y => x >>> (y &&& 31))) := by
  intro p l e R s m args below meth c D cA S H0 Qw K Q X Cx Ks Rs hX ls st h k z hT H locs lsA hR hS hl hk hz
  obtain ⟨hx, hb, hml, hown, hG, hE, hnm, hH0, hfr, hlo, hRc, hRs⟩ := Cx
  unfold am_ib at hT
  split at hT
  · next y x r => exact lv_ishr hx hb hdg (hX _ _ _ _ _ _ hT H locs lsA hR hS hl hk hz)
  · exact hT.elim
theorem am_sd_idiv (hdg : decode cc pc = .ok (.idiv, 1)) : am_Sd lx mt own nm cc nL mc ms ret pc (am_idiv) := by
  intro p l e R s m args below meth c D cA S H0 Qw K Q X Cx Ks Rs hX ls st h k z hT H locs lsA hR hS hl hk hz
  obtain ⟨hx, hb, hml, hown, hG, hE, hnm, hH0, hfr, hlo, hRc, hRs⟩ := Cx
  unfold am_idiv at hT
  split at hT
  · next y x r => exact lv_idiv hx hb hdg hT.1 (hX _ _ _ _ _ _ hT.2 H locs lsA hR hS hl hk hz)
  · exact hT.elim
theorem am_sd_irem (hdg : decode cc pc = .ok (.irem, 1)) : am_Sd lx mt own nm cc nL mc ms ret pc (am_irem) := by
  intro p l e R s m args below meth c D cA S H0 Qw K Q X Cx Ks Rs hX ls st h k z hT H locs lsA hR hS hl hk hz
  obtain ⟨hx, hb, hml, hown, hG, hE, hnm, hH0, hfr, hlo, hRc, hRs⟩ := Cx
  unfold am_irem at hT
  split at hT
  · next y x r => exact lv_irem hx hb hdg hT.1 (hX _ _ _ _ _ _ hT.2 H locs lsA hR hS hl hk hz)
  · exact hT.elim
theorem am_sd_ladd (hdg : decode cc pc = .ok (.ladd, 1)) : am_Sd lx mt own nm cc nL mc ms ret pc (am_lb (fun x y => x + y)) := by
  intro p l e R s m args below meth c D cA S H0 Qw K Q X Cx Ks Rs hX ls st h k z hT H locs lsA hR hS hl hk hz
  obtain ⟨hx, hb, hml, hown, hG, hE, hnm, hH0, hfr, hlo, hRc, hRs⟩ := Cx
  unfold am_lb at hT
  split at hT
  · next y x r => exact lv_ladd hx hb hdg (hX _ _ _ _ _ _ hT H locs lsA hR hS hl hk hz)
  · exact hT.elim
theorem am_sd_lmul (hdg : decode cc pc = .ok (.lmul, 1)) : am_Sd lx mt own nm cc nL mc ms ret pc (am_lb (fun x y => x * y)) := by
  intro p l e R s m args below meth c D cA S H0 Qw K Q X Cx Ks Rs hX ls st h k z hT H locs lsA hR hS hl hk hz
  obtain ⟨hx, hb, hml, hown, hG, hE, hnm, hH0, hfr, hlo, hRc, hRs⟩ := Cx
  unfold am_lb at hT
  split at hT
  · next y x r => exact lv_lmul hx hb hdg (hX _ _ _ _ _ _ hT H locs lsA hR hS hl hk hz)
  · exact hT.elim
theorem am_sd_lor (hdg : decode cc pc = .ok (.lor, 1)) : am_Sd lx mt own nm cc nL mc ms ret pc (am_lb (fun x y => x ||| y)) := by
  intro p l e R s m args below meth c D cA S H0 Qw K Q X Cx Ks Rs hX ls st h k z hT H locs lsA hR hS hl hk hz
  obtain ⟨hx, hb, hml, hown, hG, hE, hnm, hH0, hfr, hlo, hRc, hRs⟩ := Cx
  unfold am_lb at hT
  split at hT
  · next y x r => exact lv_lor hx hb hdg (hX _ _ _ _ _ _ hT H locs lsA hR hS hl hk hz)
  · exact hT.elim
theorem am_sd_lshl (hdg : decode cc pc = .ok (.lshl, 1)) : am_Sd lx mt own nm cc nL mc ms ret pc (am_lsh (fun x y => x <<< (y.toInt64 &&& 63))) := by
  intro p l e R s m args below meth c D cA S H0 Qw K Q X Cx Ks Rs hX ls st h k z hT H locs lsA hR hS hl hk hz
  obtain ⟨hx, hb, hml, hown, hG, hE, hnm, hH0, hfr, hlo, hRc, hRs⟩ := Cx
  unfold am_lsh at hT
  split at hT
  · next y x r => exact lv_lshl hx hb hdg rfl (hX _ _ _ _ _ _ hT H locs lsA hR hS hl hk hz)
  · exact hT.elim
theorem am_sd_lshr (hdg : decode cc pc = .ok (.lshr, 1)) : am_Sd lx mt own nm cc nL mc ms ret pc (am_lsh (fun x y => x >>> (y.toInt64 &&& 63))) := by
  intro p l e R s m args below meth c D cA S H0 Qw K Q X Cx Ks Rs hX ls st h k z hT H locs lsA hR hS hl hk hz
  obtain ⟨hx, hb, hml, hown, hG, hE, hnm, hH0, hfr, hlo, hRc, hRs⟩ := Cx
  unfold am_lsh at hT
  split at hT
  · next y x r => exact lv_lshr hx hb hdg rfl (hX _ _ _ _ _ _ hT H locs lsA hR hS hl hk hz)
  · exact hT.elim
theorem am_sd_lcmp (hdg : decode cc pc = .ok (.lcmp, 1)) : am_Sd lx mt own nm cc nL mc ms ret pc (am_lcmp) := by
  intro p l e R s m args below meth c D cA S H0 Qw K Q X Cx Ks Rs hX ls st h k z hT H locs lsA hR hS hl hk hz
  obtain ⟨hx, hb, hml, hown, hG, hE, hnm, hH0, hfr, hlo, hRc, hRs⟩ := Cx
  unfold am_lcmp at hT
  split at hT
  · next y x r => exact W.lcmp hx hb hdg (hX _ _ _ _ _ _ hT H locs lsA hR hS hl hk hz)
  · exact hT.elim
theorem am_sd_i2l (hdg : decode cc pc = .ok (.i2l, 1)) : am_Sd lx mt own nm cc nL mc ms ret pc (am_i2l) := by
  intro p l e R s m args below meth c D cA S H0 Qw K Q X Cx Ks Rs hX ls st h k z hT H locs lsA hR hS hl hk hz
  obtain ⟨hx, hb, hml, hown, hG, hE, hnm, hH0, hfr, hlo, hRc, hRs⟩ := Cx
  unfold am_i2l at hT
  split at hT
  · next x r => exact lv_i2l hx hb hdg rfl (hX _ _ _ _ _ _ hT H locs lsA hR hS hl hk hz)
  · exact hT.elim
theorem am_sd_l2i (hdg : decode cc pc = .ok (.l2i, 1)) : am_Sd lx mt own nm cc nL mc ms ret pc (am_l2i) := by
  intro p l e R s m args below meth c D cA S H0 Qw K Q X Cx Ks Rs hX ls st h k z hT H locs lsA hR hS hl hk hz
  obtain ⟨hx, hb, hml, hown, hG, hE, hnm, hH0, hfr, hlo, hRc, hRs⟩ := Cx
  unfold am_l2i at hT
  split at hT
  · next x r => exact lv_l2i hx hb hdg rfl (hX _ _ _ _ _ _ hT H locs lsA hR hS hl hk hz)
  · exact hT.elim
theorem am_sd_i2c (hdg : decode cc pc = .ok (.i2c, 1)) : am_Sd lx mt own nm cc nL mc ms ret pc (am_i2c) := by
  intro p l e R s m args below meth c D cA S H0 Qw K Q X Cx Ks Rs hX ls st h k z hT H locs lsA hR hS hl hk hz
  obtain ⟨hx, hb, hml, hown, hG, hE, hnm, hH0, hfr, hlo, hRc, hRs⟩ := Cx
  unfold am_i2c at hT
  split at hT
  · next x r => exact lv_i2c hx hb hdg rfl (hX _ _ _ _ _ _ hT H locs lsA hR hS hl hk hz)
  · exact hT.elim
theorem am_sd_dup (hdg : decode cc pc = .ok (.dup, 1)) : am_Sd lx mt own nm cc nL mc ms ret pc (am_dup) := by
  intro p l e R s m args below meth c D cA S H0 Qw K Q X Cx Ks Rs hX ls st h k z hT H locs lsA hR hS hl hk hz
  obtain ⟨hx, hb, hml, hown, hG, hE, hnm, hH0, hfr, hlo, hRc, hRs⟩ := Cx
  unfold am_dup at hT
  split at hT
  · next v r => exact lv_dup hx hb hdg (by rw [am_cv_cat]; exact hT.1) (hX _ _ _ _ _ _ hT.2 H locs lsA hR hS hl hk hz)
  · exact hT.elim
theorem am_sd_pop (hdg : decode cc pc = .ok (.pop, 1)) : am_Sd lx mt own nm cc nL mc ms ret pc (am_pop) := by
  intro p l e R s m args below meth c D cA S H0 Qw K Q X Cx Ks Rs hX ls st h k z hT H locs lsA hR hS hl hk hz
  obtain ⟨hx, hb, hml, hown, hG, hE, hnm, hH0, hfr, hlo, hRc, hRs⟩ := Cx
  unfold am_pop at hT
  split at hT
  · next v r => exact lv_pop hx hb hdg (by rw [am_cv_cat]; exact hT.1) (hX _ _ _ _ _ _ hT.2 H locs lsA hR hS hl hk hz)
  · exact hT.elim
theorem am_sd_if_eq {off : Int} {tgt : Nat} (hdg : decode cc pc = .ok (.ifCond .eq off, 3)) (ht : (pc : Int) + off = (tgt : Int)) : am_Sd lx mt own nm cc nL mc ms ret pc (am_if1 (fun x => x = 0) tgt) := by
  intro p l e R s m args below meth c D cA S H0 Qw K Q X Cx Ks Rs hX ls st h k z hT H locs lsA hR hS hl hk hz
  obtain ⟨hx, hb, hml, hown, hG, hE, hnm, hH0, hfr, hlo, hRc, hRs⟩ := Cx
  unfold am_if1 at hT
  split at hT
  · next x r => exact lv_if_eq hx hb hdg ht (fun q => hX _ _ _ _ _ _ (hT.1 q) H locs lsA hR hS hl hk hz) (fun q => hX _ _ _ _ _ _ (hT.2 q) H locs lsA hR hS hl hk hz)
  · exact hT.elim
theorem am_sd_icmp_eq {off : Int} {tgt : Nat} (hdg : decode cc pc = .ok (.if_icmp .eq off, 3)) (ht : (pc : Int) + off = (tgt : Int)) : am_Sd lx mt own nm cc nL mc ms ret pc (am_if2 (fun x y => x = y) tgt) := by
  intro p l e R s m args below meth c D cA S H0 Qw K Q X Cx Ks Rs hX ls st h k z hT H locs lsA hR hS hl hk hz
  obtain ⟨hx, hb, hml, hown, hG, hE, hnm, hH0, hfr, hlo, hRc, hRs⟩ := Cx
  unfold am_if2 at hT
  split at hT
  · next y x r => exact lv_icmp_eq hx hb hdg ht (fun q => hX _ _ _ _ _ _ (hT.1 q) H locs lsA hR hS hl hk hz) (fun q => hX _ _ _ _ _ _ (hT.2 q) H locs lsA hR hS hl hk hz)
  · exact hT.elim
theorem am_sd_if_ne {off : Int} {tgt : Nat} (hdg : decode cc pc = .ok (.ifCond .ne off, 3)) (ht : (pc : Int) + off = (tgt : Int)) : am_Sd lx mt own nm cc nL mc ms ret pc (am_if1 (fun x => ¬ x = 0) tgt) := by
  intro p l e R s m args below meth c D cA S H0 Qw K Q X Cx Ks Rs hX ls st h k z hT H locs lsA hR hS hl hk hz
  obtain ⟨hx, hb, hml, hown, hG, hE, hnm, hH0, hfr, hlo, hRc, hRs⟩ := Cx
  unfold am_if1 at hT
  split at hT
  · next x r => exact lv_if_ne hx hb hdg ht (fun q => hX _ _ _ _ _ _ (hT.1 q) H locs lsA hR hS hl hk hz) (fun q => hX _ _ _ _ _ _ (hT.2 (fun h9 => h9 q)) H locs lsA hR hS hl hk hz)
  · exact hT.elim
theorem am_sd_icmp_ne {off : Int} {tgt : Nat} (hdg : decode cc pc = .ok (.if_icmp .ne off, 3)) (ht : (pc : Int) + off = (tgt : Int)) : am_Sd lx mt own nm cc nL mc ms ret pc (am_if2 (fun x y => ¬ x = y) tgt) := by
  intro p l e R s m args below meth c D cA S H0 Qw K Q X Cx Ks Rs hX ls st h k z hT H locs lsA hR hS hl hk hz
  obtain ⟨hx, hb, hml, hown, hG, hE, hnm, hH0, hfr, hlo, hRc, hRs⟩ := Cx
  unfold am_if2 at hT
  split at hT
  · next y x r => exact lv_icmp_ne hx hb hdg ht (fun q => hX _ _ _ _ _ _ (hT.1 q) H locs lsA hR hS hl hk hz) (fun q => hX _ _ _ _ _ _ (hT.2 (fun h9 => h9 q)) H locs lsA hR hS hl hk hz)
  · exact hT.elim
theorem am_sd_if_lt {off : Int} {tgt : Nat} (hdg : decode cc pc = .ok (.ifCond .lt off, 3)) (ht : (pc : Int) + off = (tgt : Int)) : am_Sd lx mt own nm cc nL mc ms ret pc (am_if1 (fun x => x < 0) tgt) := by
  intro p l e R s m args below meth c D cA S H0 Qw K Q X Cx Ks Rs hX ls st h k z hT H locs lsA hR hS hl hk hz
  obtain ⟨hx, hb, hml, hown, hG, hE, hnm, hH0, hfr, hlo, hRc, hRs⟩ := Cx
  unfold am_if1 at hT
  split at hT
  · next x r => exact lv_if_lt hx hb hdg ht (fun q => hX _ _ _ _ _ _ (hT.1 q) H locs lsA hR hS hl hk hz) (fun q => hX _ _ _ _ _ _ (hT.2 q) H locs lsA hR hS hl hk hz)
  · exact hT.elim
theorem am_sd_icmp_lt {off : Int} {tgt : Nat} (hdg : decode cc pc = .ok (.if_icmp .lt off, 3)) (ht : (pc : Int) + off = (tgt : Int)) : am_Sd lx mt own nm cc nL mc ms ret pc (am_if2 (fun x y => x < y) tgt) := by
  intro p l e R s m args below meth c D cA S H0 Qw K Q X Cx Ks Rs hX ls st h k z hT H locs lsA hR hS hl hk hz
  obtain ⟨hx, hb, hml, hown, hG, hE, hnm, hH0, hfr, hlo, hRc, hRs⟩ := Cx
  unfold am_if2 at hT
  split at hT
  · next y x r => exact lv_icmp_lt hx hb hdg ht (fun q => hX _ _ _ _ _ _ (hT.1 q) H locs lsA hR hS hl hk hz) (fun q => hX _ _ _ _ _ _ (hT.2 q) H locs lsA hR hS hl hk hz)
  · exact hT.elim
theorem am_sd_if_ge {off : Int} {tgt : Nat} (hdg : decode cc pc = .ok (.ifCond .ge off, 3)) (ht : (pc : Int) + off = (tgt : Int)) : am_Sd lx mt own nm cc nL mc ms ret pc (am_if1 (fun x => 0 ≤ x) tgt) := by
  intro p l e R s m args below meth c D cA S H0 Qw K Q X Cx Ks Rs hX ls st h k z hT H locs lsA hR hS hl hk hz
  obtain ⟨hx, hb, hml, hown, hG, hE, hnm, hH0, hfr, hlo, hRc, hRs⟩ := Cx
  unfold am_if1 at hT
  split at hT
  · next x r => exact lv_if_ge hx hb hdg ht (fun q => hX _ _ _ _ _ _ (hT.1 q) H locs lsA hR hS hl hk hz) (fun q => hX _ _ _ _ _ _ (hT.2 q) H locs lsA hR hS hl hk hz)
  · exact hT.elim
theorem am_sd_icmp_ge {off : Int} {tgt : Nat} (hdg : decode cc pc = .ok (.if_icmp .ge off, 3)) (ht : (pc : Int) + off = (tgt : Int)) : am_Sd lx mt own nm cc nL mc ms ret pc (am_if2 (fun x y => y ≤ x) tgt) := by
  intro p l e R s m args below meth c D cA S H0 Qw K Q X Cx Ks Rs hX ls st h k z hT H locs lsA hR hS hl hk hz
  obtain ⟨hx, hb, hml, hown, hG, hE, hnm, hH0, hfr, hlo, hRc, hRs⟩ := Cx
  unfold am_if2 at hT
  split at hT
  · next y x r => exact lv_icmp_ge hx hb hdg ht (fun q => hX _ _ _ _ _ _ (hT.1 q) H locs lsA hR hS hl hk hz) (fun q => hX _ _ _ _ _ _ (hT.2 q) H locs lsA hR hS hl hk hz)
  · exact hT.elim
theorem am_sd_if_gt {off : Int} {tgt : Nat} (hdg : decode cc pc = .ok (.ifCond .gt off, 3)) (ht : (pc : Int) + off = (tgt : Int)) : am_Sd lx mt own nm cc nL mc ms ret pc (am_if1 (fun x => 0 < x) tgt) := by
  intro p l e R s m args below meth c D cA S H0 Qw K Q X Cx Ks Rs hX ls st h k z hT H locs lsA hR hS hl hk hz
  obtain ⟨hx, hb, hml, hown, hG, hE, hnm, hH0, hfr, hlo, hRc, hRs⟩ := Cx
  unfold am_if1 at hT
  split at hT
  · next x r => exact lv_if_gt hx hb hdg ht (fun q => hX _ _ _ _ _ _ (hT.1 q) H locs lsA hR hS hl hk hz) (fun q => hX _ _ _ _ _ _ (hT.2 q) H locs lsA hR hS hl hk hz)
  · exact hT.elim
theorem am_sd_icmp_gt {off : Int} {tgt : Nat} (hdg : decode cc pc = .ok (.if_icmp .gt off, 3)) (ht : (pc : Int) + off = (tgt : Int)) : am_Sd lx mt own nm cc nL mc ms ret pc (am_if2 (fun x y => y < x) tgt) := by
  intro p l e R s m args below meth c D cA S H0 Qw K Q X Cx Ks Rs hX ls st h k z hT H locs lsA hR hS hl hk hz
  obtain ⟨hx, hb, hml, hown, hG, hE, hnm, hH0, hfr, hlo, hRc, hRs⟩ := Cx
  unfold am_if2 at hT
  split at hT
  · next y x r => exact lv_icmp_gt hx hb hdg ht (fun q => hX _ _ _ _ _ _ (hT.1 q) H locs lsA hR hS hl hk hz) (fun q => hX _ _ _ _ _ _ (hT.2 q) H locs lsA hR hS hl hk hz)
  · exact hT.elim
theorem am_sd_if_le {off : Int} {tgt : Nat} (hdg : decode cc pc = .ok (.ifCond .le off, 3)) (ht : (pc : Int) + off = (tgt : Int)) : am_Sd lx mt own nm cc nL mc ms ret pc (am_if1 (fun x => x ≤ 0) tgt) := by
  intro p l e R s m args below meth c D cA S H0 Qw K Q X Cx Ks Rs hX ls st h k z hT H locs lsA hR hS hl hk hz
  obtain ⟨hx, hb, hml, hown, hG, hE, hnm, hH0, hfr, hlo, hRc, hRs⟩ := Cx
  unfold am_if1 at hT
  split at hT
  · next x r => exact lv_if_le hx hb hdg ht (fun q => hX _ _ _ _ _ _ (hT.1 q) H locs lsA hR hS hl hk hz) (fun q => hX _ _ _ _ _ _ (hT.2 q) H locs lsA hR hS hl hk hz)
  · exact hT.elim
theorem am_sd_icmp_le {off : Int} {tgt : Nat} (hdg : decode cc pc = .ok (.if_icmp .le off, 3)) (ht : (pc : Int) + off = (tgt : Int)) : am_Sd lx mt own nm cc nL mc ms ret pc (am_if2 (fun x y => x ≤ y) tgt) := by
  intro p l e R s m args below meth c D cA S H0 Qw K Q X Cx Ks Rs hX ls st h k z hT H locs lsA hR hS hl hk hz
  obtain ⟨hx, hb, hml, hown, hG, hE, hnm, hH0, hfr, hlo, hRc, hRs⟩ := Cx
  unfold am_if2 at hT
  split at hT
  · next y x r => exact lv_icmp_le hx hb hdg ht (fun q => hX _ _ _ _ _ _ (hT.1 q) H locs lsA hR hS hl hk hz) (fun q => hX _ _ _ _ _ _ (hT.2 q) H locs lsA hR hS hl hk hz)
  · exact hT.elim
theorem am_sd_goto {off : Int} {tgt : Nat} (hdg : decode cc pc = .ok (.goto off, 3)) (ht : (pc : Int) + off = (tgt : Int)) : am_Sd lx mt own nm cc nL mc ms ret pc (am_goto tgt) := by
  intro p l e R s m args below meth c D cA S H0 Qw K Q X Cx Ks Rs hX ls st h k z hT H locs lsA hR hS hl hk hz
  obtain ⟨hx, hb, hml, hown, hG, hE, hnm, hH0, hfr, hlo, hRc, hRs⟩ := Cx
  exact lv_goto hx hb hdg ht (hX _ _ _ _ _ _ hT H locs lsA hR hS hl hk hz)
theorem am_sd_ireturn {ty : FieldType} (hret : ret = some ty) (hdg : decode cc pc = .ok (.ireturn, 1)) : am_Sd lx mt own nm cc nL mc ms ret pc (am_iret ty) := by
  intro p l e R s m args below meth c D cA S H0 Qw K Q X Cx Ks Rs hX ls st h k z hT H locs lsA hR hS hl hk hz
  obtain ⟨hx, hb, hml, hown, hG, hE, hnm, hH0, hfr, hlo, hRc, hRs⟩ := Cx
  unfold am_iret at hT
  split at hT
  · next x => exact (Rs pc lsA h H locs k z hR hS hk hz).1 ty x hret hT.1 hT.2 hdg
  · exact hT.elim
theorem am_sd_lreturn (hret : ret = some .long) (hdg : decode cc pc = .ok (.lreturn, 1)) : am_Sd lx mt own nm cc nL mc ms ret pc (am_lret) := by
  intro p l e R s m args below meth c D cA S H0 Qw K Q X Cx Ks Rs hX ls st h k z hT H locs lsA hR hS hl hk hz
  obtain ⟨hx, hb, hml, hown, hG, hE, hnm, hH0, hfr, hlo, hRc, hRs⟩ := Cx
  unfold am_lret at hT
  split at hT
  · next x => exact (Rs pc lsA h H locs k z hR hS hk hz).2.1 x hret hT hdg
  · exact hT.elim
theorem am_sd_return (hret : ret = none) (hdg : decode cc pc = .ok (.return_, 1)) : am_Sd lx mt own nm cc nL mc ms ret pc (am_vret) := by
  intro p l e R s m args below meth c D cA S H0 Qw K Q X Cx Ks Rs hX ls st h k z hT H locs lsA hR hS hl hk hz
  obtain ⟨hx, hb, hml, hown, hG, hE, hnm, hH0, hfr, hlo, hRc, hRs⟩ := Cx
  unfold am_vret at hT
  split at hT
  · exact (Rs pc lsA h H locs k z hR hS hk hz).2.2 hret hT hdg
  · exact hT.elim
end
