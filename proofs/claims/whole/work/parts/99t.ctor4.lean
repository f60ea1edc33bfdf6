theorem mk_o {K : am_K} {cd : List (Nat × am_T)} {Q : am_Q} {pc pn : Nat} {ls : am_L} {st : List Value} {h : am_H} {c z : Nat} {ci N mc ms n : Nat} {fs : List Value} (G : am_GK K cd) (hf1 : am_fetch cd pc = am_new ci N fs mc ms) (hp : pc + 3 = pn) (hl : h.length = n) (h1 : c + 1 ≤ mc) (h2 : z + N ≤ ms) (kk : ∀ h', h'.length = n + 1 → (∀ i, i < n → h'[i]? = h[i]?) → h'[n]? = some (.inr (ci, fs)) → am_Go K (am_fetch cd) Q pn ls (.ref n :: st) h' (c + 1) (z + N)) : am_Go K (am_fetch cd) Q pc ls st h c z := by
  refine r_new G hf1 hp h1 h2 ?_
  rw [hl]
  refine kk _ (by rw [List.length_append, hl]; rfl) (fun i hi => List.getElem?_append_left (by omega)) ?_
  rw [← hl]
  exact ap_eq
theorem mk_p {K : am_K} {cd : List (Nat × am_T)} {Q : am_Q} {pc pn : Nat} {ls : am_L} {st : List Value} {h : am_H} {c z : Nat} {ci f a b n : Nat} {fs : List Value} {E : String} (G : am_GK K cd) (hf : am_fetch cd pc = am_put ci f (.object E)) (hp : pc + 3 = pn) (hl : h.length = n) (hA : h[a]? = some (.inr (ci, fs))) (hk : f < fs.length) (kk : ∀ h', h'.length = n → (∀ i, i ≠ a → h'[i]? = h[i]?) → h'[a]? = some (.inr (ci, fs.set f (.ref b))) → am_Go K (am_fetch cd) Q pn ls st h' c z) : am_Go K (am_fetch cd) Q pc ls (.ref b :: .ref a :: st) h c z := by
  refine r_putr G hf hp hA hk rfl rfl ?_
  exact kk _ (by rw [List.length_set]; exact hl) (fun i hi => List.getElem?_set_ne (fun z => hi z.symm)) (am_eq hA)
theorem mk_r {K : am_K} {cd : List (Nat × am_T)} {Q : am_Q} {pc pn : Nat} {ls : am_L} {st : List Value} {h : am_H} {c z : Nat} {pp : Nat} {E : String} {mc ms a n f ci k : Nat} {fs : List Value} {x : Int32} (G : am_GK K cd) (hf1 : am_fetch cd pc = am_newr E mc ms) (hp1 : pc + 3 = pp) (hf2 : am_fetch cd pp = am_put ci f (.array (.object E))) (hp2 : pp + 3 = pn) (hx : x = nI k) (hk : k ≤ 65536) (hl : h.length = n) (hA : h[a]? = some (.inr (ci, fs))) (hf : f < fs.length) (h1 : c + 1 ≤ mc) (h2 : z + k ≤ ms) (kk : ∀ h', h'.length = n + 1 → (∀ i, i < n → i ≠ a → h'[i]? = h[i]?) → h'[a]? = some (.inr (ci, fs.set f (.ref n))) → h'[n]? = some (.inl (.object E, k, .inr (.inr (.inr (.inr (fun _ => none)))))) → am_Go K (am_fetch cd) Q pn ls st h' (c + 1) (z + k)) : am_Go K (am_fetch cd) Q pc ls (.int x :: .ref a :: st) h c z := by
  subst hx
  have ek : (nI k).toNatClampNeg = k := nI_clamp (by omega)
  have ht : a < n := by rw [← hl]; exact (List.getElem?_eq_some_iff.mp hA).1
  refine r_newr G (pn := pp) hf1 hp1 (nI_pos (by omega)) (by rw [ek]; exact hk) h1 (by rw [ek]; exact h2) ?_
  rw [ek, hl]
  refine r_putr G (pn := pn) hf2 hp2 (ap_lt hA) hf rfl rfl ?_
  refine kk _ (by rw [List.length_set, List.length_append, hl]; rfl) (fun i h1 h2 => ap_fr (by omega) h2) (am_eq (ap_lt hA)) ?_
  rw [List.getElem?_set_ne (by omega), ← hl]
  exact ap_eq
/-- a new one -/
def g00 (x : Int32) : Wk := ⟨capN x, 0, fun _ => 0, fun _ => 0, fun _ _ => 0, fun _ _ => 0, fun _ _ => 0⟩
section
variable {lx : am_Lx} {d : Nat} {h : am_H} {Q : am_Q}
set_option maxRecDepth 20000 in
theorem sp_0 (hd : 3 ≤ d) {x : Int32} (hn : h.length = 1) (ha : h[0]? = some (.inr (0, [.int 0, .null, .null, .null, .null, .null, .int 0, .null, .null, .null, .null, .null, .null]))) (hq : ∀ h', h'.length = 81 → WcI h' (g00 x) 0 0 0 (fun _ _ => 0) (fun _ => 0) → Q none h') : am_KA lx d 0 [.ref 0, .int x] h Q := by
  obtain ⟨e, rfl⟩ : ∃ e, d = e + 1 := ⟨d - 1, by omega⟩
  have G : am_GK (am_KA lx e) cd_0 := ⟨am_KA_m lx e, cm_0⟩
  refine am_KA_in (by decide) (Nat.le_of_ble_eq_true rfl) ?_
  show am_Go (am_KA lx e) (am_fetch cd_0) Q 0 [some (.ref 0), some (.int x), none] [] h 0 0
  have A := ha
  have L := hn
  refine r_ra G (pn := 1) rfl rfl rfl ?_
  refine r_obj G (pn := 4) rfl rfl (Nat.le_of_ble_eq_true rfl) ?_
  refine r_ra G (pn := 5) rfl rfl rfl ?_
  refine mk_o (n := 1) G rfl rfl L (Nat.le_of_ble_eq_true rfl) (Nat.le_of_ble_eq_true rfl) (fun s0 Ls Fo Ao => ?_)
  refine r_dup G (pn := 9) rfl rfl rfl ?_
  refine r_inm1 G (pn := 12) rfl rfl (Nat.le_of_ble_eq_true rfl) (Nat.le_of_ble_eq_true rfl) (Nat.le_of_ble_eq_true rfl) (sp_86 (by omega) (a := 1) (n := 2) Ls Ao (fun t0 Lt Ft At N0_0 => ?_))
  show am_Go _ _ _ 12 [some (.ref 0), some (.int x), none] [.ref 1, .ref 0] t0 _ _
  refine mk_p (n := 3) G rfl rfl Lt ((Ft 0 (by omega) (by omega)).trans ((Fo 0 (by omega)).trans A)) (Nat.le_of_ble_eq_true rfl) (fun k0 L Fp A => ?_)
  have A : k0[0]? = some (.inr (0, [.int 0, .ref 1, .null, .null, .null, .null, .int 0, .null, .null, .null, .null, .null, .null])) := A
  have T : ∀ i, 0 < i → i < 1 → k0[i]? = h[i]? := fun i h1 h2 => (Fp i (by omega)).trans ((Ft i (by omega) (by omega)).trans (Fo i h2))
  have O1 : k0[1]? = some (.inr (4, [.ref 2, .int 0])) := (Fp 1 (by omega)).trans At
  have O2 : k0[2]? = some (.inl (.char, 24, .inl (fun _ => 0))) := (Fp 2 (by omega)).trans N0_0
  clear Fo Ao Ls Ft At Lt Fp T
  refine r_ra G (pn := 16) rfl rfl rfl ?_
  refine mk_o (n := 3) G rfl rfl L (Nat.le_of_ble_eq_true rfl) (Nat.le_of_ble_eq_true rfl) (fun s1 Ls Fo Ao => ?_)
  refine r_dup G (pn := 20) rfl rfl rfl ?_
  refine r_inm1 G (pn := 23) rfl rfl (Nat.le_of_ble_eq_true rfl) (Nat.le_of_ble_eq_true rfl) (Nat.le_of_ble_eq_true rfl) (sp_104 (by omega) (a := 3) Ls Ao (fun t1 Lt Ft At Gt N1_0 N1_1 N1_2 => ?_))
  show am_Go _ _ _ 23 [some (.ref 0), some (.int x), none] [.ref 3, .ref 0] t1 _ _
  refine mk_p (n := 35) G rfl rfl Lt ((Ft 0 (by omega)).trans ((Fo 0 (by omega)).trans A)) (Nat.le_of_ble_eq_true rfl) (fun k1 L Fp A => ?_)
  have A : k1[0]? = some (.inr (0, [.int 0, .ref 1, .ref 3, .null, .null, .null, .int 0, .null, .null, .null, .null, .null, .null])) := A
  have T : ∀ i, 0 < i → i < 3 → k1[i]? = k0[i]? := fun i h1 h2 => (Fp i (by omega)).trans ((Ft i (by omega)).trans (Fo i h2))
  have O1 := (T 1 (by omega) (by omega)).trans O1
  have O2 := (T 2 (by omega) (by omega)).trans O2
  have O3 : k1[3]? = some (.inr (8, [.ref 4, .ref 32, .ref 33, .ref 34, .int 0, .int 0, .int 0, .int 0, .int 0])) := (Fp 3 (by omega)).trans At
  have O32 : k1[32]? = some (aI 24 (fun _ => 0)) := (Fp 32 (by omega)).trans N1_0
  have O33 : k1[33]? = some (aI 2 (fun _ => 0)) := (Fp 33 (by omega)).trans N1_1
  have O34 : k1[34]? = some (aI 2 (fun _ => 0)) := (Fp 34 (by omega)).trans N1_2
  have G4 : GrI 4 24 k1 0 (fun _ => 0) (fun _ _ => 0) := gr_same Gt (fun i h1 h2 => Fp i (by omega))
  clear Fo Ao Ls Ft At Lt Fp T
  refine r_ra G (pn := 27) rfl rfl rfl ?_
  refine mk_o (n := 35) G rfl rfl L (Nat.le_of_ble_eq_true rfl) (Nat.le_of_ble_eq_true rfl) (fun s2 Ls Fo Ao => ?_)
  refine r_dup G (pn := 31) rfl rfl rfl ?_
  refine r_inm1 G (pn := 34) rfl rfl (Nat.le_of_ble_eq_true rfl) (Nat.le_of_ble_eq_true rfl) (Nat.le_of_ble_eq_true rfl) (sp_81 (by omega) (a := 35) (n := 36) Ls Ao (fun t2 Lt Ft At N2_0 N2_1 N2_2 => ?_))
  show am_Go _ _ _ 34 [some (.ref 0), some (.int x), none] [.ref 35, .ref 0] t2 _ _
  refine mk_p (n := 39) G rfl rfl Lt ((Ft 0 (by omega) (by omega)).trans ((Fo 0 (by omega)).trans A)) (Nat.le_of_ble_eq_true rfl) (fun k2 L Fp A => ?_)
  have A : k2[0]? = some (.inr (0, [.int 0, .ref 1, .ref 3, .ref 35, .null, .null, .int 0, .null, .null, .null, .null, .null, .null])) := A
  have T : ∀ i, 0 < i → i < 35 → k2[i]? = k1[i]? := fun i h1 h2 => (Fp i (by omega)).trans ((Ft i (by omega) (by omega)).trans (Fo i h2))
  have O1 := (T 1 (by omega) (by omega)).trans O1
  have O2 := (T 2 (by omega) (by omega)).trans O2
  have O3 := (T 3 (by omega) (by omega)).trans O3
  have O32 := (T 32 (by omega) (by omega)).trans O32
  have O33 := (T 33 (by omega) (by omega)).trans O33
  have O34 := (T 34 (by omega) (by omega)).trans O34
  have G4 := gr_same G4 (fun i h1 h2 => T i (by omega) (by omega))
  have O35 : k2[35]? = some (.inr (3, [.ref 36, .ref 37, .ref 38])) := (Fp 35 (by omega)).trans At
  have O36 : k2[36]? = some (aI 5 (fun _ => 0)) := (Fp 36 (by omega)).trans N2_0
  have O37 : k2[37]? = some (aI 5 (fun _ => 0)) := (Fp 37 (by omega)).trans N2_1
  have O38 : k2[38]? = some (aI 5 (fun _ => 0)) := (Fp 38 (by omega)).trans N2_2
  clear Fo Ao Ls Ft At Lt Fp T
  refine r_ra G (pn := 38) rfl rfl rfl ?_
  refine mk_o (n := 39) G rfl rfl L (Nat.le_of_ble_eq_true rfl) (Nat.le_of_ble_eq_true rfl) (fun s3 Ls Fo Ao => ?_)
  refine r_dup G (pn := 42) rfl rfl rfl ?_
  refine r_inm1 G (pn := 45) rfl rfl (Nat.le_of_ble_eq_true rfl) (Nat.le_of_ble_eq_true rfl) (Nat.le_of_ble_eq_true rfl) (sp_121 (by omega) (a := 39) (n := 40) Ls Ao (fun t3 Lt Ft At N3_0 N3_1 => ?_))
  show am_Go _ _ _ 45 [some (.ref 0), some (.int x), none] [.ref 39, .ref 0] t3 _ _
  refine mk_p (n := 42) G rfl rfl Lt ((Ft 0 (by omega) (by omega)).trans ((Fo 0 (by omega)).trans A)) (Nat.le_of_ble_eq_true rfl) (fun k3 L Fp A => ?_)
  have A : k3[0]? = some (.inr (0, [.int 0, .ref 1, .ref 3, .ref 35, .ref 39, .null, .int 0, .null, .null, .null, .null, .null, .null])) := A
  have T : ∀ i, 0 < i → i < 39 → k3[i]? = k2[i]? := fun i h1 h2 => (Fp i (by omega)).trans ((Ft i (by omega) (by omega)).trans (Fo i h2))
  have O1 := (T 1 (by omega) (by omega)).trans O1
  have O2 := (T 2 (by omega) (by omega)).trans O2
  have O3 := (T 3 (by omega) (by omega)).trans O3
  have O32 := (T 32 (by omega) (by omega)).trans O32
  have O33 := (T 33 (by omega) (by omega)).trans O33
  have O34 := (T 34 (by omega) (by omega)).trans O34
  have G4 := gr_same G4 (fun i h1 h2 => T i (by omega) (by omega))
  have O35 := (T 35 (by omega) (by omega)).trans O35
  have O36 := (T 36 (by omega) (by omega)).trans O36
  have O37 := (T 37 (by omega) (by omega)).trans O37
  have O38 := (T 38 (by omega) (by omega)).trans O38
  have O39 : k3[39]? = some (.inr (10, [.ref 40, .ref 41, .int 0])) := (Fp 39 (by omega)).trans At
  have O40 : k3[40]? = some (aL 12 (fun _ => 0)) := (Fp 40 (by omega)).trans N3_0
  have O41 : k3[41]? = some (aI 12 (fun _ => 0)) := (Fp 41 (by omega)).trans N3_1
  clear Fo Ao Ls Ft At Lt Fp T
  refine r_ra G (pn := 49) rfl rfl rfl ?_
  refine r_ic G (pn := 50) rfl rfl  ?_
  refine mk_r (pp := 53) (pn := 56) (n := 42) (f := 5) (k := 3) G rfl rfl rfl rfl rfl (Nat.le_of_ble_eq_true rfl) L A (Nat.le_of_ble_eq_true rfl) (Nat.le_of_ble_eq_true rfl) (Nat.le_of_ble_eq_true rfl) (fun k4 L Ft A O42 => ?_)
  have A : k4[0]? = some (.inr (0, [.int 0, .ref 1, .ref 3, .ref 35, .ref 39, .ref 42, .int 0, .null, .null, .null, .null, .null, .null])) := A
  have T : ∀ i, 0 < i → i < 42 → k4[i]? = k3[i]? := fun i h1 h2 => Ft i h2 (by omega)
  have O1 := (T 1 (by omega) (by omega)).trans O1
  have O2 := (T 2 (by omega) (by omega)).trans O2
  have O3 := (T 3 (by omega) (by omega)).trans O3
  have O32 := (T 32 (by omega) (by omega)).trans O32
  have O33 := (T 33 (by omega) (by omega)).trans O33
  have O34 := (T 34 (by omega) (by omega)).trans O34
  have G4 := gr_same G4 (fun i h1 h2 => T i (by omega) (by omega))
  have O35 := (T 35 (by omega) (by omega)).trans O35
  have O36 := (T 36 (by omega) (by omega)).trans O36
  have O37 := (T 37 (by omega) (by omega)).trans O37
  have O38 := (T 38 (by omega) (by omega)).trans O38
  have O39 := (T 39 (by omega) (by omega)).trans O39
  have O40 := (T 40 (by omega) (by omega)).trans O40
  have O41 := (T 41 (by omega) (by omega)).trans O41
  clear Ft T
  refine r_ra G (pn := 57) rfl rfl rfl ?_
  refine mk_o (n := 43) G rfl rfl L (Nat.le_of_ble_eq_true rfl) (Nat.le_of_ble_eq_true rfl) (fun s5 Ls Fo Ao => ?_)
  refine r_dup G (pn := 61) rfl rfl rfl ?_
  refine r_inm1 G (pn := 64) rfl rfl (Nat.le_of_ble_eq_true rfl) (Nat.le_of_ble_eq_true rfl) (Nat.le_of_ble_eq_true rfl) (sp_90 (by omega) (a := 43) Ls Ao (fun t5 Lt Ft At Gt  => ?_))
  show am_Go _ _ _ 64 [some (.ref 0), some (.int x), none] [.ref 43, .ref 0] t5 _ _
  refine mk_p (n := 58) G rfl rfl Lt ((Ft 0 (by omega)).trans ((Fo 0 (by omega)).trans A)) (Nat.le_of_ble_eq_true rfl) (fun k5 L Fp A => ?_)
  have A : k5[0]? = some (.inr (0, [.int 0, .ref 1, .ref 3, .ref 35, .ref 39, .ref 42, .int 0, .ref 43, .null, .null, .null, .null, .null])) := A
  have T : ∀ i, 0 < i → i < 43 → k5[i]? = k4[i]? := fun i h1 h2 => (Fp i (by omega)).trans ((Ft i (by omega)).trans (Fo i h2))
  have O1 := (T 1 (by omega) (by omega)).trans O1
  have O2 := (T 2 (by omega) (by omega)).trans O2
  have O3 := (T 3 (by omega) (by omega)).trans O3
  have O32 := (T 32 (by omega) (by omega)).trans O32
  have O33 := (T 33 (by omega) (by omega)).trans O33
  have O34 := (T 34 (by omega) (by omega)).trans O34
  have G4 := gr_same G4 (fun i h1 h2 => T i (by omega) (by omega))
  have O35 := (T 35 (by omega) (by omega)).trans O35
  have O36 := (T 36 (by omega) (by omega)).trans O36
  have O37 := (T 37 (by omega) (by omega)).trans O37
  have O38 := (T 38 (by omega) (by omega)).trans O38
  have O39 := (T 39 (by omega) (by omega)).trans O39
  have O40 := (T 40 (by omega) (by omega)).trans O40
  have O41 := (T 41 (by omega) (by omega)).trans O41
  have O42 := (T 42 (by omega) (by omega)).trans O42
  have O43 : k5[43]? = some (.inr (5, [.ref 44, .int 0])) := (Fp 43 (by omega)).trans At
  have G44 : GrI 44 10 k5 0 (fun _ => 0) (fun _ _ => 0) := gr_same Gt (fun i h1 h2 => Fp i (by omega))
  clear Fo Ao Ls Ft At Lt Fp T
  refine r_ra G (pn := 68) rfl rfl rfl ?_
  refine mk_o (n := 58) G rfl rfl L (Nat.le_of_ble_eq_true rfl) (Nat.le_of_ble_eq_true rfl) (fun s6 Ls Fo Ao => ?_)
  refine r_dup G (pn := 72) rfl rfl rfl ?_
  refine r_inm1 G (pn := 75) rfl rfl (Nat.le_of_ble_eq_true rfl) (Nat.le_of_ble_eq_true rfl) (Nat.le_of_ble_eq_true rfl) (sp_70 (by omega) (a := 58) (n := 59) Ls Ao (fun t6 Lt Ft At N6_0 N6_1 => ?_))
  show am_Go _ _ _ 75 [some (.ref 0), some (.int x), none] [.ref 58, .ref 0] t6 _ _
  refine mk_p (n := 61) G rfl rfl Lt ((Ft 0 (by omega) (by omega)).trans ((Fo 0 (by omega)).trans A)) (Nat.le_of_ble_eq_true rfl) (fun k6 L Fp A => ?_)
  have A : k6[0]? = some (.inr (0, [.int 0, .ref 1, .ref 3, .ref 35, .ref 39, .ref 42, .int 0, .ref 43, .ref 58, .null, .null, .null, .null])) := A
  have T : ∀ i, 0 < i → i < 58 → k6[i]? = k5[i]? := fun i h1 h2 => (Fp i (by omega)).trans ((Ft i (by omega) (by omega)).trans (Fo i h2))
  have O1 := (T 1 (by omega) (by omega)).trans O1
  have O2 := (T 2 (by omega) (by omega)).trans O2
  have O3 := (T 3 (by omega) (by omega)).trans O3
  have O32 := (T 32 (by omega) (by omega)).trans O32
  have O33 := (T 33 (by omega) (by omega)).trans O33
  have O34 := (T 34 (by omega) (by omega)).trans O34
  have G4 := gr_same G4 (fun i h1 h2 => T i (by omega) (by omega))
  have O35 := (T 35 (by omega) (by omega)).trans O35
  have O36 := (T 36 (by omega) (by omega)).trans O36
  have O37 := (T 37 (by omega) (by omega)).trans O37
  have O38 := (T 38 (by omega) (by omega)).trans O38
  have O39 := (T 39 (by omega) (by omega)).trans O39
  have O40 := (T 40 (by omega) (by omega)).trans O40
  have O41 := (T 41 (by omega) (by omega)).trans O41
  have O42 := (T 42 (by omega) (by omega)).trans O42
  have O43 := (T 43 (by omega) (by omega)).trans O43
  have G44 := gr_same G44 (fun i h1 h2 => T i (by omega) (by omega))
  have O58 : k6[58]? = some (.inr (1, [.ref 59, .ref 60, .int 0])) := (Fp 58 (by omega)).trans At
  have O59 : k6[59]? = some (aI 3 (fun _ => 0)) := (Fp 59 (by omega)).trans N6_0
  have O60 : k6[60]? = some (aI 2160 (fun _ => 0)) := (Fp 60 (by omega)).trans N6_1
  clear Fo Ao Ls Ft At Lt Fp T
  refine r_ra G (pn := 79) rfl rfl rfl ?_
  refine mk_o (n := 61) G rfl rfl L (Nat.le_of_ble_eq_true rfl) (Nat.le_of_ble_eq_true rfl) (fun s7 Ls Fo Ao => ?_)
  refine r_dup G (pn := 83) rfl rfl rfl ?_
  refine r_inm1 G (pn := 86) rfl rfl (Nat.le_of_ble_eq_true rfl) (Nat.le_of_ble_eq_true rfl) (Nat.le_of_ble_eq_true rfl) (sp_95 (by omega) (a := 61) (n := 62) Ls Ao (fun t7 Lt Ft At N7_0 N7_1 => ?_))
  show am_Go _ _ _ 86 [some (.ref 0), some (.int x), none] [.ref 61, .ref 0] t7 _ _
  refine mk_p (n := 64) G rfl rfl Lt ((Ft 0 (by omega) (by omega)).trans ((Fo 0 (by omega)).trans A)) (Nat.le_of_ble_eq_true rfl) (fun k7 L Fp A => ?_)
  have A : k7[0]? = some (.inr (0, [.int 0, .ref 1, .ref 3, .ref 35, .ref 39, .ref 42, .int 0, .ref 43, .ref 58, .ref 61, .null, .null, .null])) := A
  have T : ∀ i, 0 < i → i < 61 → k7[i]? = k6[i]? := fun i h1 h2 => (Fp i (by omega)).trans ((Ft i (by omega) (by omega)).trans (Fo i h2))
  have O1 := (T 1 (by omega) (by omega)).trans O1
  have O2 := (T 2 (by omega) (by omega)).trans O2
  have O3 := (T 3 (by omega) (by omega)).trans O3
  have O32 := (T 32 (by omega) (by omega)).trans O32
  have O33 := (T 33 (by omega) (by omega)).trans O33
  have O34 := (T 34 (by omega) (by omega)).trans O34
  have G4 := gr_same G4 (fun i h1 h2 => T i (by omega) (by omega))
  have O35 := (T 35 (by omega) (by omega)).trans O35
  have O36 := (T 36 (by omega) (by omega)).trans O36
  have O37 := (T 37 (by omega) (by omega)).trans O37
  have O38 := (T 38 (by omega) (by omega)).trans O38
  have O39 := (T 39 (by omega) (by omega)).trans O39
  have O40 := (T 40 (by omega) (by omega)).trans O40
  have O41 := (T 41 (by omega) (by omega)).trans O41
  have O42 := (T 42 (by omega) (by omega)).trans O42
  have O43 := (T 43 (by omega) (by omega)).trans O43
  have G44 := gr_same G44 (fun i h1 h2 => T i (by omega) (by omega))
  have O58 := (T 58 (by omega) (by omega)).trans O58
  have O59 := (T 59 (by omega) (by omega)).trans O59
  have O60 := (T 60 (by omega) (by omega)).trans O60
  have O61 : k7[61]? = some (.inr (6, [.ref 62, .ref 63, .int 0, .int 0])) := (Fp 61 (by omega)).trans At
  have O62 : k7[62]? = some (aL 3 (fun _ => 0)) := (Fp 62 (by omega)).trans N7_0
  have O63 : k7[63]? = some (aI 10 (fun _ => 0)) := (Fp 63 (by omega)).trans N7_1
  clear Fo Ao Ls Ft At Lt Fp T
  refine r_ra G (pn := 90) rfl rfl rfl ?_
  refine mk_o (n := 64) G rfl rfl L (Nat.le_of_ble_eq_true rfl) (Nat.le_of_ble_eq_true rfl) (fun s8 Ls Fo Ao => ?_)
  refine r_dup G (pn := 94) rfl rfl rfl ?_
  refine r_inm1 G (pn := 97) rfl rfl (Nat.le_of_ble_eq_true rfl) (Nat.le_of_ble_eq_true rfl) (Nat.le_of_ble_eq_true rfl) (sp_98 (by omega) (a := 64) (n := 65) Ls Ao (fun t8 Lt Ft At N8_0 => ?_))
  show am_Go _ _ _ 97 [some (.ref 0), some (.int x), none] [.ref 64, .ref 0] t8 _ _
  refine mk_p (n := 66) G rfl rfl Lt ((Ft 0 (by omega) (by omega)).trans ((Fo 0 (by omega)).trans A)) (Nat.le_of_ble_eq_true rfl) (fun k8 L Fp A => ?_)
  have A : k8[0]? = some (.inr (0, [.int 0, .ref 1, .ref 3, .ref 35, .ref 39, .ref 42, .int 0, .ref 43, .ref 58, .ref 61, .ref 64, .null, .null])) := A
  have T : ∀ i, 0 < i → i < 64 → k8[i]? = k7[i]? := fun i h1 h2 => (Fp i (by omega)).trans ((Ft i (by omega) (by omega)).trans (Fo i h2))
  have O1 := (T 1 (by omega) (by omega)).trans O1
  have O2 := (T 2 (by omega) (by omega)).trans O2
  have O3 := (T 3 (by omega) (by omega)).trans O3
  have O32 := (T 32 (by omega) (by omega)).trans O32
  have O33 := (T 33 (by omega) (by omega)).trans O33
  have O34 := (T 34 (by omega) (by omega)).trans O34
  have G4 := gr_same G4 (fun i h1 h2 => T i (by omega) (by omega))
  have O35 := (T 35 (by omega) (by omega)).trans O35
  have O36 := (T 36 (by omega) (by omega)).trans O36
  have O37 := (T 37 (by omega) (by omega)).trans O37
  have O38 := (T 38 (by omega) (by omega)).trans O38
  have O39 := (T 39 (by omega) (by omega)).trans O39
  have O40 := (T 40 (by omega) (by omega)).trans O40
  have O41 := (T 41 (by omega) (by omega)).trans O41
  have O42 := (T 42 (by omega) (by omega)).trans O42
  have O43 := (T 43 (by omega) (by omega)).trans O43
  have G44 := gr_same G44 (fun i h1 h2 => T i (by omega) (by omega))
  have O58 := (T 58 (by omega) (by omega)).trans O58
  have O59 := (T 59 (by omega) (by omega)).trans O59
  have O60 := (T 60 (by omega) (by omega)).trans O60
  have O61 := (T 61 (by omega) (by omega)).trans O61
  have O62 := (T 62 (by omega) (by omega)).trans O62
  have O63 := (T 63 (by omega) (by omega)).trans O63
  have O64 : k8[64]? = some (.inr (7, [.ref 65, .int 0])) := (Fp 64 (by omega)).trans At
  have O65 : k8[65]? = some (aI 40 (fun _ => 0)) := (Fp 65 (by omega)).trans N8_0
  clear Fo Ao Ls Ft At Lt Fp T
  refine r_ra G (pn := 101) rfl rfl rfl ?_
  refine mk_o (n := 66) G rfl rfl L (Nat.le_of_ble_eq_true rfl) (Nat.le_of_ble_eq_true rfl) (fun s9 Ls Fo Ao => ?_)
  refine r_dup G (pn := 105) rfl rfl rfl ?_
  refine r_inm1 G (pn := 108) rfl rfl (Nat.le_of_ble_eq_true rfl) (Nat.le_of_ble_eq_true rfl) (Nat.le_of_ble_eq_true rfl) (sp_98 (by omega) (a := 66) (n := 67) Ls Ao (fun t9 Lt Ft At N9_0 => ?_))
  show am_Go _ _ _ 108 [some (.ref 0), some (.int x), none] [.ref 66, .ref 0] t9 _ _
  refine mk_p (n := 68) G rfl rfl Lt ((Ft 0 (by omega) (by omega)).trans ((Fo 0 (by omega)).trans A)) (Nat.le_of_ble_eq_true rfl) (fun k9 L Fp A => ?_)
  have A : k9[0]? = some (.inr (0, [.int 0, .ref 1, .ref 3, .ref 35, .ref 39, .ref 42, .int 0, .ref 43, .ref 58, .ref 61, .ref 64, .ref 66, .null])) := A
  have T : ∀ i, 0 < i → i < 66 → k9[i]? = k8[i]? := fun i h1 h2 => (Fp i (by omega)).trans ((Ft i (by omega) (by omega)).trans (Fo i h2))
  have O1 := (T 1 (by omega) (by omega)).trans O1
  have O2 := (T 2 (by omega) (by omega)).trans O2
  have O3 := (T 3 (by omega) (by omega)).trans O3
  have O32 := (T 32 (by omega) (by omega)).trans O32
  have O33 := (T 33 (by omega) (by omega)).trans O33
  have O34 := (T 34 (by omega) (by omega)).trans O34
  have G4 := gr_same G4 (fun i h1 h2 => T i (by omega) (by omega))
  have O35 := (T 35 (by omega) (by omega)).trans O35
  have O36 := (T 36 (by omega) (by omega)).trans O36
  have O37 := (T 37 (by omega) (by omega)).trans O37
  have O38 := (T 38 (by omega) (by omega)).trans O38
  have O39 := (T 39 (by omega) (by omega)).trans O39
  have O40 := (T 40 (by omega) (by omega)).trans O40
  have O41 := (T 41 (by omega) (by omega)).trans O41
  have O42 := (T 42 (by omega) (by omega)).trans O42
  have O43 := (T 43 (by omega) (by omega)).trans O43
  have G44 := gr_same G44 (fun i h1 h2 => T i (by omega) (by omega))
  have O58 := (T 58 (by omega) (by omega)).trans O58
  have O59 := (T 59 (by omega) (by omega)).trans O59
  have O60 := (T 60 (by omega) (by omega)).trans O60
  have O61 := (T 61 (by omega) (by omega)).trans O61
  have O62 := (T 62 (by omega) (by omega)).trans O62
  have O63 := (T 63 (by omega) (by omega)).trans O63
  have O64 := (T 64 (by omega) (by omega)).trans O64
  have O65 := (T 65 (by omega) (by omega)).trans O65
  have O66 : k9[66]? = some (.inr (7, [.ref 67, .int 0])) := (Fp 66 (by omega)).trans At
  have O67 : k9[67]? = some (aI 40 (fun _ => 0)) := (Fp 67 (by omega)).trans N9_0
  clear Fo Ao Ls Ft At Lt Fp T
  refine r_ra G (pn := 112) rfl rfl rfl ?_
  refine r_ic G (pn := 113) rfl rfl  ?_
  refine mk_i (pp := 115) (pn := 118) (n := 68) (f := 12) (k := 5) G rfl rfl rfl rfl rfl (Nat.le_of_ble_eq_true rfl) L A (Nat.le_of_ble_eq_true rfl) (Nat.le_of_ble_eq_true rfl) (Nat.le_of_ble_eq_true rfl) (fun k10 L Ft A O68 => ?_)
  have A : k10[0]? = some (.inr (0, [.int 0, .ref 1, .ref 3, .ref 35, .ref 39, .ref 42, .int 0, .ref 43, .ref 58, .ref 61, .ref 64, .ref 66, .ref 68])) := A
  have T : ∀ i, 0 < i → i < 68 → k10[i]? = k9[i]? := fun i h1 h2 => Ft i h2 (by omega)
  have O1 := (T 1 (by omega) (by omega)).trans O1
  have O2 := (T 2 (by omega) (by omega)).trans O2
  have O3 := (T 3 (by omega) (by omega)).trans O3
  have O32 := (T 32 (by omega) (by omega)).trans O32
  have O33 := (T 33 (by omega) (by omega)).trans O33
  have O34 := (T 34 (by omega) (by omega)).trans O34
  have G4 := gr_same G4 (fun i h1 h2 => T i (by omega) (by omega))
  have O35 := (T 35 (by omega) (by omega)).trans O35
  have O36 := (T 36 (by omega) (by omega)).trans O36
  have O37 := (T 37 (by omega) (by omega)).trans O37
  have O38 := (T 38 (by omega) (by omega)).trans O38
  have O39 := (T 39 (by omega) (by omega)).trans O39
  have O40 := (T 40 (by omega) (by omega)).trans O40
  have O41 := (T 41 (by omega) (by omega)).trans O41
  have O42 := (T 42 (by omega) (by omega)).trans O42
  have O43 := (T 43 (by omega) (by omega)).trans O43
  have G44 := gr_same G44 (fun i h1 h2 => T i (by omega) (by omega))
  have O58 := (T 58 (by omega) (by omega)).trans O58
  have O59 := (T 59 (by omega) (by omega)).trans O59
  have O60 := (T 60 (by omega) (by omega)).trans O60
  have O61 := (T 61 (by omega) (by omega)).trans O61
  have O62 := (T 62 (by omega) (by omega)).trans O62
  have O63 := (T 63 (by omega) (by omega)).trans O63
  have O64 := (T 64 (by omega) (by omega)).trans O64
  have O65 := (T 65 (by omega) (by omega)).trans O65
  have O66 := (T 66 (by omega) (by omega)).trans O66
  have O67 := (T 67 (by omega) (by omega)).trans O67
  clear Ft T
  refine r_ra G (pn := 119) rfl rfl rfl ?_
  refine r_ic G (pn := 120) rfl rfl  ?_
  refine r_ic G (pn := 121) rfl rfl  ?_
  refine r_il G (pn := 122) rfl rfl rfl ?_
  refine r_min G (pn := 125) rfl rfl (Nat.le_of_ble_eq_true rfl) ?_
  refine r_max G (pn := 128) rfl rfl (Nat.le_of_ble_eq_true rfl) ?_
  rw [cap_cls]
  refine r_puti G (pn := 131) rfl rfl A (Nat.le_of_ble_eq_true rfl) ?_
  have T : ∀ i, 0 < i → i < 69 → (k10.set 0 (.inr (0, [.int (nI (capN x)), .ref 1, .ref 3, .ref 35, .ref 39, .ref 42, .int 0, .ref 43, .ref 58, .ref 61, .ref 64, .ref 66, .ref 68])) : am_H)[i]? = k10[i]? := fun i h1 h2 => List.getElem?_set_ne (by omega)
  have O1 := (T 1 (by omega) (by omega)).trans O1
  have O2 := (T 2 (by omega) (by omega)).trans O2
  have O3 := (T 3 (by omega) (by omega)).trans O3
  have O32 := (T 32 (by omega) (by omega)).trans O32
  have O33 := (T 33 (by omega) (by omega)).trans O33
  have O34 := (T 34 (by omega) (by omega)).trans O34
  have G4 := gr_same G4 (fun i h1 h2 => T i (by omega) (by omega))
  have O35 := (T 35 (by omega) (by omega)).trans O35
  have O36 := (T 36 (by omega) (by omega)).trans O36
  have O37 := (T 37 (by omega) (by omega)).trans O37
  have O38 := (T 38 (by omega) (by omega)).trans O38
  have O39 := (T 39 (by omega) (by omega)).trans O39
  have O40 := (T 40 (by omega) (by omega)).trans O40
  have O41 := (T 41 (by omega) (by omega)).trans O41
  have O42 := (T 42 (by omega) (by omega)).trans O42
  have O43 := (T 43 (by omega) (by omega)).trans O43
  have G44 := gr_same G44 (fun i h1 h2 => T i (by omega) (by omega))
  have O58 := (T 58 (by omega) (by omega)).trans O58
  have O59 := (T 59 (by omega) (by omega)).trans O59
  have O60 := (T 60 (by omega) (by omega)).trans O60
  have O61 := (T 61 (by omega) (by omega)).trans O61
  have O62 := (T 62 (by omega) (by omega)).trans O62
  have O63 := (T 63 (by omega) (by omega)).trans O63
  have O64 := (T 64 (by omega) (by omega)).trans O64
  have O65 := (T 65 (by omega) (by omega)).trans O65
  have O66 := (T 66 (by omega) (by omega)).trans O66
  have O67 := (T 67 (by omega) (by omega)).trans O67
  have O68 := (T 68 (by omega) (by omega)).trans O68
  have A : (k10.set 0 (.inr (0, [.int (nI (capN x)), .ref 1, .ref 3, .ref 35, .ref 39, .ref 42, .int 0, .ref 43, .ref 58, .ref 61, .ref 64, .ref 66, .ref 68])) : am_H)[0]? = some (.inr (0, [.int (nI (capN x)), .ref 1, .ref 3, .ref 35, .ref 39, .ref 42, .int 0, .ref 43, .ref 58, .ref 61, .ref 64, .ref 66, .ref 68])) := am_eq A
  have L : (k10.set 0 (.inr (0, [.int (nI (capN x)), .ref 1, .ref 3, .ref 35, .ref 39, .ref 42, .int 0, .ref 43, .ref 58, .ref 61, .ref 64, .ref 66, .ref 68])) : am_H).length = 69 := by rw [List.length_set]; exact L
  show am_Go _ _ _ 131 [some (.ref 0), some (.int x), none] [] (k10.set 0 (.inr (0, [.int (nI (capN x)), .ref 1, .ref 3, .ref 35, .ref 39, .ref 42, .int 0, .ref 43, .ref 58, .ref 61, .ref 64, .ref 66, .ref 68] )) : am_H) _ _
  generalize (k10.set 0 (.inr (0, [.int (nI (capN x)), .ref 1, .ref 3, .ref 35, .ref 39, .ref 42, .int 0, .ref 43, .ref 58, .ref 61, .ref 64, .ref 66, .ref 68])) : am_H) = k11 at T A L O1 O2 O3 O32 O33 O34 G4 O35 O36 O37 O38 O39 O40 O41 O42 O43 G44 O58 O59 O60 O61 O62 O63 O64 O65 O66 O67 O68
  clear T
  refine r_ic G (pn := 132) rfl rfl  ?_
  refine r_is G (pn := 133) rfl rfl (Nat.le_of_ble_eq_true rfl) ?_
  show am_Go _ _ _ 133 [some (.ref 0), some (.int x), some (.int (nI 0))] [] k11 _ _
  refine r_il G (pn := 134) rfl rfl rfl ?_
  refine r_ic G (pn := 135) rfl rfl  ?_
  refine r_if2 G (pn := 138) rfl rfl (fun c135 => absurd c135 (by decide)) (fun _ => ?_)
  refine r_ra G (pn := 139) rfl rfl rfl ?_
  refine r_get G (pn := 142) rfl rfl A rfl ?_
  refine r_il G (pn := 143) rfl rfl rfl ?_
  refine mk_o (n := 69) G rfl rfl L (Nat.le_of_ble_eq_true rfl) (Nat.le_of_ble_eq_true rfl) (fun s12 Ls Fo Ao => ?_)
  refine r_dup G (pn := 147) rfl rfl rfl ?_
  refine r_inm1 G (pn := 150) rfl rfl (Nat.le_of_ble_eq_true rfl) (Nat.le_of_ble_eq_true rfl) (Nat.le_of_ble_eq_true rfl) (sp_116 (by omega) (a := 69) (n := 70) Ls Ao (fun t12 Lt Ft At N0 N1 N2 => ?_))
  show am_Go _ _ _ 150 [some (.ref 0), some (.int x), some (.int (nI 0))] [.ref 69, .int (nI 0), .ref 42] t12 _ _
  have B42 : t12[42]? = some (.inl (.object "SpeciesRounds$Rule", 3, .inr (.inr (.inr (.inr (fun _ => none)))))) := (Ft 42 (by omega) (by omega)).trans ((Fo 42 (by omega)).trans O42)
  refine r_rast G (pn := 151) rfl rfl B42 (vp_in_nI (by omega) (by omega)) At ?_
  have T : ∀ i, i ≠ 42 → i < 69 → (t12.set 42 (.inl (.object "SpeciesRounds$Rule", 3, .inr (.inr (.inr (.inr (va_up (fun _ => none) (nI 0).toNatClampNeg (some 69))))))) : am_H)[i]? = k11[i]? := fun i h1 h2 => (List.getElem?_set_ne (fun z => h1 z.symm)).trans ((Ft i (by omega) (by omega)).trans (Fo i h2))
  have U : ∀ i, i ≠ 42 → (t12.set 42 (.inl (.object "SpeciesRounds$Rule", 3, .inr (.inr (.inr (.inr (va_up (fun _ => none) (nI 0).toNatClampNeg (some 69))))))) : am_H)[i]? = t12[i]? := fun i h1 => List.getElem?_set_ne (fun z => h1 z.symm)
  have O1 := (T 1 (by omega) (by omega)).trans O1
  have O2 := (T 2 (by omega) (by omega)).trans O2
  have O3 := (T 3 (by omega) (by omega)).trans O3
  have O32 := (T 32 (by omega) (by omega)).trans O32
  have O33 := (T 33 (by omega) (by omega)).trans O33
  have O34 := (T 34 (by omega) (by omega)).trans O34
  have G4 := gr_same G4 (fun i h1 h2 => T i (by omega) (by omega))
  have O35 := (T 35 (by omega) (by omega)).trans O35
  have O36 := (T 36 (by omega) (by omega)).trans O36
  have O37 := (T 37 (by omega) (by omega)).trans O37
  have O38 := (T 38 (by omega) (by omega)).trans O38
  have O39 := (T 39 (by omega) (by omega)).trans O39
  have O40 := (T 40 (by omega) (by omega)).trans O40
  have O41 := (T 41 (by omega) (by omega)).trans O41
  have O43 := (T 43 (by omega) (by omega)).trans O43
  have G44 := gr_same G44 (fun i h1 h2 => T i (by omega) (by omega))
  have O58 := (T 58 (by omega) (by omega)).trans O58
  have O59 := (T 59 (by omega) (by omega)).trans O59
  have O60 := (T 60 (by omega) (by omega)).trans O60
  have O61 := (T 61 (by omega) (by omega)).trans O61
  have O62 := (T 62 (by omega) (by omega)).trans O62
  have O63 := (T 63 (by omega) (by omega)).trans O63
  have O64 := (T 64 (by omega) (by omega)).trans O64
  have O65 := (T 65 (by omega) (by omega)).trans O65
  have O66 := (T 66 (by omega) (by omega)).trans O66
  have O67 := (T 67 (by omega) (by omega)).trans O67
  have O68 := (T 68 (by omega) (by omega)).trans O68
  have A := (T 0 (by omega) (by omega)).trans A
  have O42 : (t12.set 42 (.inl (.object "SpeciesRounds$Rule", 3, .inr (.inr (.inr (.inr (va_up (fun _ => none) (nI 0).toNatClampNeg (some 69))))))) : am_H)[42]? = some (.inl (.object "SpeciesRounds$Rule", 3, .inr (.inr (.inr (.inr (va_up (fun _ => none) (nI 0).toNatClampNeg (some 69))))))) := am_eq B42
  have L : (t12.set 42 (.inl (.object "SpeciesRounds$Rule", 3, .inr (.inr (.inr (.inr (va_up (fun _ => none) (nI 0).toNatClampNeg (some 69))))))) : am_H).length = 73 := by rw [List.length_set]; exact Lt
  have O69 : (t12.set 42 (.inl (.object "SpeciesRounds$Rule", 3, .inr (.inr (.inr (.inr (va_up (fun _ => none) (nI 0).toNatClampNeg (some 69))))))) : am_H)[69]? = some (.inr (9, [.ref 70, .ref 71, .ref 72, .int 0])) := (U 69 (by omega)).trans At
  have O70 : (t12.set 42 (.inl (.object "SpeciesRounds$Rule", 3, .inr (.inr (.inr (.inr (va_up (fun _ => none) (nI 0).toNatClampNeg (some 69))))))) : am_H)[70]? = some (aI 3 (fun _ => 0)) := (U 70 (by omega)).trans N0
  have O71 : (t12.set 42 (.inl (.object "SpeciesRounds$Rule", 3, .inr (.inr (.inr (.inr (va_up (fun _ => none) (nI 0).toNatClampNeg (some 69))))))) : am_H)[71]? = some (aI 3 (fun _ => 0)) := (U 71 (by omega)).trans N1
  have O72 : (t12.set 42 (.inl (.object "SpeciesRounds$Rule", 3, .inr (.inr (.inr (.inr (va_up (fun _ => none) (nI 0).toNatClampNeg (some 69))))))) : am_H)[72]? = some (aI 3 (fun _ => 0)) := (U 72 (by omega)).trans N2
  show am_Go _ _ _ 151 [some (.ref 0), some (.int x), some (.int (nI 0))] [] (t12.set 42 (.inl (.object "SpeciesRounds$Rule", 3, .inr (.inr (.inr (.inr (va_up (fun _ => none) (nI 0).toNatClampNeg (some 69))))))) : am_H) _ _
  generalize (t12.set 42 (.inl (.object "SpeciesRounds$Rule", 3, .inr (.inr (.inr (.inr (va_up (fun _ => none) (nI 0).toNatClampNeg (some 69))))))) : am_H) = k12 at T U A L O1 O2 O3 O32 O33 O34 G4 O35 O36 O37 O38 O39 O40 O41 O42 O43 G44 O58 O59 O60 O61 O62 O63 O64 O65 O66 O67 O68 O69 O70 O71 O72
  clear T U B42 N0 N1 N2 At Ft Lt Fo Ao Ls
  refine r_inc G (pn := 154) rfl rfl rfl (Nat.le_of_ble_eq_true rfl) ?_
  refine r_goto G rfl ?_
  show am_Go _ _ _ 133 [some (.ref 0), some (.int x), some (.int (nI 1))] [] k12 _ _
  refine r_il G (pn := 134) rfl rfl rfl ?_
  refine r_ic G (pn := 135) rfl rfl  ?_
  refine r_if2 G (pn := 138) rfl rfl (fun c135 => absurd c135 (by decide)) (fun _ => ?_)
  refine r_ra G (pn := 139) rfl rfl rfl ?_
  refine r_get G (pn := 142) rfl rfl A rfl ?_
  refine r_il G (pn := 143) rfl rfl rfl ?_
  refine mk_o (n := 73) G rfl rfl L (Nat.le_of_ble_eq_true rfl) (Nat.le_of_ble_eq_true rfl) (fun s13 Ls Fo Ao => ?_)
  refine r_dup G (pn := 147) rfl rfl rfl ?_
  refine r_inm1 G (pn := 150) rfl rfl (Nat.le_of_ble_eq_true rfl) (Nat.le_of_ble_eq_true rfl) (Nat.le_of_ble_eq_true rfl) (sp_116 (by omega) (a := 73) (n := 74) Ls Ao (fun t13 Lt Ft At N0 N1 N2 => ?_))
  show am_Go _ _ _ 150 [some (.ref 0), some (.int x), some (.int (nI 1))] [.ref 73, .int (nI 1), .ref 42] t13 _ _
  have B42 : t13[42]? = some (.inl (.object "SpeciesRounds$Rule", 3, .inr (.inr (.inr (.inr (va_up (fun _ => none) (nI 0).toNatClampNeg (some 69))))))) := (Ft 42 (by omega) (by omega)).trans ((Fo 42 (by omega)).trans O42)
  refine r_rast G (pn := 151) rfl rfl B42 (vp_in_nI (by omega) (by omega)) At ?_
  have T : ∀ i, i ≠ 42 → i < 73 → (t13.set 42 (.inl (.object "SpeciesRounds$Rule", 3, .inr (.inr (.inr (.inr (va_up (va_up (fun _ => none) (nI 0).toNatClampNeg (some 69)) (nI 1).toNatClampNeg (some 73))))))) : am_H)[i]? = k12[i]? := fun i h1 h2 => (List.getElem?_set_ne (fun z => h1 z.symm)).trans ((Ft i (by omega) (by omega)).trans (Fo i h2))
  have U : ∀ i, i ≠ 42 → (t13.set 42 (.inl (.object "SpeciesRounds$Rule", 3, .inr (.inr (.inr (.inr (va_up (va_up (fun _ => none) (nI 0).toNatClampNeg (some 69)) (nI 1).toNatClampNeg (some 73))))))) : am_H)[i]? = t13[i]? := fun i h1 => List.getElem?_set_ne (fun z => h1 z.symm)
  have O1 := (T 1 (by omega) (by omega)).trans O1
  have O2 := (T 2 (by omega) (by omega)).trans O2
  have O3 := (T 3 (by omega) (by omega)).trans O3
  have O32 := (T 32 (by omega) (by omega)).trans O32
  have O33 := (T 33 (by omega) (by omega)).trans O33
  have O34 := (T 34 (by omega) (by omega)).trans O34
  have G4 := gr_same G4 (fun i h1 h2 => T i (by omega) (by omega))
  have O35 := (T 35 (by omega) (by omega)).trans O35
  have O36 := (T 36 (by omega) (by omega)).trans O36
  have O37 := (T 37 (by omega) (by omega)).trans O37
  have O38 := (T 38 (by omega) (by omega)).trans O38
  have O39 := (T 39 (by omega) (by omega)).trans O39
  have O40 := (T 40 (by omega) (by omega)).trans O40
  have O41 := (T 41 (by omega) (by omega)).trans O41
  have O43 := (T 43 (by omega) (by omega)).trans O43
  have G44 := gr_same G44 (fun i h1 h2 => T i (by omega) (by omega))
  have O58 := (T 58 (by omega) (by omega)).trans O58
  have O59 := (T 59 (by omega) (by omega)).trans O59
  have O60 := (T 60 (by omega) (by omega)).trans O60
  have O61 := (T 61 (by omega) (by omega)).trans O61
  have O62 := (T 62 (by omega) (by omega)).trans O62
  have O63 := (T 63 (by omega) (by omega)).trans O63
  have O64 := (T 64 (by omega) (by omega)).trans O64
  have O65 := (T 65 (by omega) (by omega)).trans O65
  have O66 := (T 66 (by omega) (by omega)).trans O66
  have O67 := (T 67 (by omega) (by omega)).trans O67
  have O68 := (T 68 (by omega) (by omega)).trans O68
  have O69 := (T 69 (by omega) (by omega)).trans O69
  have O70 := (T 70 (by omega) (by omega)).trans O70
  have O71 := (T 71 (by omega) (by omega)).trans O71
  have O72 := (T 72 (by omega) (by omega)).trans O72
  have A := (T 0 (by omega) (by omega)).trans A
  have O42 : (t13.set 42 (.inl (.object "SpeciesRounds$Rule", 3, .inr (.inr (.inr (.inr (va_up (va_up (fun _ => none) (nI 0).toNatClampNeg (some 69)) (nI 1).toNatClampNeg (some 73))))))) : am_H)[42]? = some (.inl (.object "SpeciesRounds$Rule", 3, .inr (.inr (.inr (.inr (va_up (va_up (fun _ => none) (nI 0).toNatClampNeg (some 69)) (nI 1).toNatClampNeg (some 73))))))) := am_eq B42
  have L : (t13.set 42 (.inl (.object "SpeciesRounds$Rule", 3, .inr (.inr (.inr (.inr (va_up (va_up (fun _ => none) (nI 0).toNatClampNeg (some 69)) (nI 1).toNatClampNeg (some 73))))))) : am_H).length = 77 := by rw [List.length_set]; exact Lt
  have O73 : (t13.set 42 (.inl (.object "SpeciesRounds$Rule", 3, .inr (.inr (.inr (.inr (va_up (va_up (fun _ => none) (nI 0).toNatClampNeg (some 69)) (nI 1).toNatClampNeg (some 73))))))) : am_H)[73]? = some (.inr (9, [.ref 74, .ref 75, .ref 76, .int 0])) := (U 73 (by omega)).trans At
  have O74 : (t13.set 42 (.inl (.object "SpeciesRounds$Rule", 3, .inr (.inr (.inr (.inr (va_up (va_up (fun _ => none) (nI 0).toNatClampNeg (some 69)) (nI 1).toNatClampNeg (some 73))))))) : am_H)[74]? = some (aI 3 (fun _ => 0)) := (U 74 (by omega)).trans N0
  have O75 : (t13.set 42 (.inl (.object "SpeciesRounds$Rule", 3, .inr (.inr (.inr (.inr (va_up (va_up (fun _ => none) (nI 0).toNatClampNeg (some 69)) (nI 1).toNatClampNeg (some 73))))))) : am_H)[75]? = some (aI 3 (fun _ => 0)) := (U 75 (by omega)).trans N1
  have O76 : (t13.set 42 (.inl (.object "SpeciesRounds$Rule", 3, .inr (.inr (.inr (.inr (va_up (va_up (fun _ => none) (nI 0).toNatClampNeg (some 69)) (nI 1).toNatClampNeg (some 73))))))) : am_H)[76]? = some (aI 3 (fun _ => 0)) := (U 76 (by omega)).trans N2
  show am_Go _ _ _ 151 [some (.ref 0), some (.int x), some (.int (nI 1))] [] (t13.set 42 (.inl (.object "SpeciesRounds$Rule", 3, .inr (.inr (.inr (.inr (va_up (va_up (fun _ => none) (nI 0).toNatClampNeg (some 69)) (nI 1).toNatClampNeg (some 73))))))) : am_H) _ _
  generalize (t13.set 42 (.inl (.object "SpeciesRounds$Rule", 3, .inr (.inr (.inr (.inr (va_up (va_up (fun _ => none) (nI 0).toNatClampNeg (some 69)) (nI 1).toNatClampNeg (some 73))))))) : am_H) = k13 at T U A L O1 O2 O3 O32 O33 O34 G4 O35 O36 O37 O38 O39 O40 O41 O42 O43 G44 O58 O59 O60 O61 O62 O63 O64 O65 O66 O67 O68 O69 O70 O71 O72 O73 O74 O75 O76
  clear T U B42 N0 N1 N2 At Ft Lt Fo Ao Ls
  refine r_inc G (pn := 154) rfl rfl rfl (Nat.le_of_ble_eq_true rfl) ?_
  refine r_goto G rfl ?_
  show am_Go _ _ _ 133 [some (.ref 0), some (.int x), some (.int (nI 2))] [] k13 _ _
  refine r_il G (pn := 134) rfl rfl rfl ?_
  refine r_ic G (pn := 135) rfl rfl  ?_
  refine r_if2 G (pn := 138) rfl rfl (fun c135 => absurd c135 (by decide)) (fun _ => ?_)
  refine r_ra G (pn := 139) rfl rfl rfl ?_
  refine r_get G (pn := 142) rfl rfl A rfl ?_
  refine r_il G (pn := 143) rfl rfl rfl ?_
  refine mk_o (n := 77) G rfl rfl L (Nat.le_of_ble_eq_true rfl) (Nat.le_of_ble_eq_true rfl) (fun s14 Ls Fo Ao => ?_)
  refine r_dup G (pn := 147) rfl rfl rfl ?_
  refine r_inm1 G (pn := 150) rfl rfl (Nat.le_of_ble_eq_true rfl) (Nat.le_of_ble_eq_true rfl) (Nat.le_of_ble_eq_true rfl) (sp_116 (by omega) (a := 77) (n := 78) Ls Ao (fun t14 Lt Ft At N0 N1 N2 => ?_))
  show am_Go _ _ _ 150 [some (.ref 0), some (.int x), some (.int (nI 2))] [.ref 77, .int (nI 2), .ref 42] t14 _ _
  have B42 : t14[42]? = some (.inl (.object "SpeciesRounds$Rule", 3, .inr (.inr (.inr (.inr (va_up (va_up (fun _ => none) (nI 0).toNatClampNeg (some 69)) (nI 1).toNatClampNeg (some 73))))))) := (Ft 42 (by omega) (by omega)).trans ((Fo 42 (by omega)).trans O42)
  refine r_rast G (pn := 151) rfl rfl B42 (vp_in_nI (by omega) (by omega)) At ?_
  have T : ∀ i, i ≠ 42 → i < 77 → (t14.set 42 (.inl (.object "SpeciesRounds$Rule", 3, .inr (.inr (.inr (.inr (va_up (va_up (va_up (fun _ => none) (nI 0).toNatClampNeg (some 69)) (nI 1).toNatClampNeg (some 73)) (nI 2).toNatClampNeg (some 77))))))) : am_H)[i]? = k13[i]? := fun i h1 h2 => (List.getElem?_set_ne (fun z => h1 z.symm)).trans ((Ft i (by omega) (by omega)).trans (Fo i h2))
  have U : ∀ i, i ≠ 42 → (t14.set 42 (.inl (.object "SpeciesRounds$Rule", 3, .inr (.inr (.inr (.inr (va_up (va_up (va_up (fun _ => none) (nI 0).toNatClampNeg (some 69)) (nI 1).toNatClampNeg (some 73)) (nI 2).toNatClampNeg (some 77))))))) : am_H)[i]? = t14[i]? := fun i h1 => List.getElem?_set_ne (fun z => h1 z.symm)
  have O1 := (T 1 (by omega) (by omega)).trans O1
  have O2 := (T 2 (by omega) (by omega)).trans O2
  have O3 := (T 3 (by omega) (by omega)).trans O3
  have O32 := (T 32 (by omega) (by omega)).trans O32
  have O33 := (T 33 (by omega) (by omega)).trans O33
  have O34 := (T 34 (by omega) (by omega)).trans O34
  have G4 := gr_same G4 (fun i h1 h2 => T i (by omega) (by omega))
  have O35 := (T 35 (by omega) (by omega)).trans O35
  have O36 := (T 36 (by omega) (by omega)).trans O36
  have O37 := (T 37 (by omega) (by omega)).trans O37
  have O38 := (T 38 (by omega) (by omega)).trans O38
  have O39 := (T 39 (by omega) (by omega)).trans O39
  have O40 := (T 40 (by omega) (by omega)).trans O40
  have O41 := (T 41 (by omega) (by omega)).trans O41
  have O43 := (T 43 (by omega) (by omega)).trans O43
  have G44 := gr_same G44 (fun i h1 h2 => T i (by omega) (by omega))
  have O58 := (T 58 (by omega) (by omega)).trans O58
  have O59 := (T 59 (by omega) (by omega)).trans O59
  have O60 := (T 60 (by omega) (by omega)).trans O60
  have O61 := (T 61 (by omega) (by omega)).trans O61
  have O62 := (T 62 (by omega) (by omega)).trans O62
  have O63 := (T 63 (by omega) (by omega)).trans O63
  have O64 := (T 64 (by omega) (by omega)).trans O64
  have O65 := (T 65 (by omega) (by omega)).trans O65
  have O66 := (T 66 (by omega) (by omega)).trans O66
  have O67 := (T 67 (by omega) (by omega)).trans O67
  have O68 := (T 68 (by omega) (by omega)).trans O68
  have O69 := (T 69 (by omega) (by omega)).trans O69
  have O70 := (T 70 (by omega) (by omega)).trans O70
  have O71 := (T 71 (by omega) (by omega)).trans O71
  have O72 := (T 72 (by omega) (by omega)).trans O72
  have O73 := (T 73 (by omega) (by omega)).trans O73
  have O74 := (T 74 (by omega) (by omega)).trans O74
  have O75 := (T 75 (by omega) (by omega)).trans O75
  have O76 := (T 76 (by omega) (by omega)).trans O76
  have A := (T 0 (by omega) (by omega)).trans A
  have O42 : (t14.set 42 (.inl (.object "SpeciesRounds$Rule", 3, .inr (.inr (.inr (.inr (va_up (va_up (va_up (fun _ => none) (nI 0).toNatClampNeg (some 69)) (nI 1).toNatClampNeg (some 73)) (nI 2).toNatClampNeg (some 77))))))) : am_H)[42]? = some (.inl (.object "SpeciesRounds$Rule", 3, .inr (.inr (.inr (.inr (va_up (va_up (va_up (fun _ => none) (nI 0).toNatClampNeg (some 69)) (nI 1).toNatClampNeg (some 73)) (nI 2).toNatClampNeg (some 77))))))) := am_eq B42
  have L : (t14.set 42 (.inl (.object "SpeciesRounds$Rule", 3, .inr (.inr (.inr (.inr (va_up (va_up (va_up (fun _ => none) (nI 0).toNatClampNeg (some 69)) (nI 1).toNatClampNeg (some 73)) (nI 2).toNatClampNeg (some 77))))))) : am_H).length = 81 := by rw [List.length_set]; exact Lt
  have O77 : (t14.set 42 (.inl (.object "SpeciesRounds$Rule", 3, .inr (.inr (.inr (.inr (va_up (va_up (va_up (fun _ => none) (nI 0).toNatClampNeg (some 69)) (nI 1).toNatClampNeg (some 73)) (nI 2).toNatClampNeg (some 77))))))) : am_H)[77]? = some (.inr (9, [.ref 78, .ref 79, .ref 80, .int 0])) := (U 77 (by omega)).trans At
  have O78 : (t14.set 42 (.inl (.object "SpeciesRounds$Rule", 3, .inr (.inr (.inr (.inr (va_up (va_up (va_up (fun _ => none) (nI 0).toNatClampNeg (some 69)) (nI 1).toNatClampNeg (some 73)) (nI 2).toNatClampNeg (some 77))))))) : am_H)[78]? = some (aI 3 (fun _ => 0)) := (U 78 (by omega)).trans N0
  have O79 : (t14.set 42 (.inl (.object "SpeciesRounds$Rule", 3, .inr (.inr (.inr (.inr (va_up (va_up (va_up (fun _ => none) (nI 0).toNatClampNeg (some 69)) (nI 1).toNatClampNeg (some 73)) (nI 2).toNatClampNeg (some 77))))))) : am_H)[79]? = some (aI 3 (fun _ => 0)) := (U 79 (by omega)).trans N1
  have O80 : (t14.set 42 (.inl (.object "SpeciesRounds$Rule", 3, .inr (.inr (.inr (.inr (va_up (va_up (va_up (fun _ => none) (nI 0).toNatClampNeg (some 69)) (nI 1).toNatClampNeg (some 73)) (nI 2).toNatClampNeg (some 77))))))) : am_H)[80]? = some (aI 3 (fun _ => 0)) := (U 80 (by omega)).trans N2
  show am_Go _ _ _ 151 [some (.ref 0), some (.int x), some (.int (nI 2))] [] (t14.set 42 (.inl (.object "SpeciesRounds$Rule", 3, .inr (.inr (.inr (.inr (va_up (va_up (va_up (fun _ => none) (nI 0).toNatClampNeg (some 69)) (nI 1).toNatClampNeg (some 73)) (nI 2).toNatClampNeg (some 77))))))) : am_H) _ _
  generalize (t14.set 42 (.inl (.object "SpeciesRounds$Rule", 3, .inr (.inr (.inr (.inr (va_up (va_up (va_up (fun _ => none) (nI 0).toNatClampNeg (some 69)) (nI 1).toNatClampNeg (some 73)) (nI 2).toNatClampNeg (some 77))))))) : am_H) = k14 at T U A L O1 O2 O3 O32 O33 O34 G4 O35 O36 O37 O38 O39 O40 O41 O42 O43 G44 O58 O59 O60 O61 O62 O63 O64 O65 O66 O67 O68 O69 O70 O71 O72 O73 O74 O75 O76 O77 O78 O79 O80
  clear T U B42 N0 N1 N2 At Ft Lt Fo Ao Ls
  refine r_inc G (pn := 154) rfl rfl rfl (Nat.le_of_ble_eq_true rfl) ?_
  refine r_goto G rfl ?_
  show am_Go _ _ _ 133 [some (.ref 0), some (.int x), some (.int (nI 3))] [] k14 _ _
  refine r_il G (pn := 134) rfl rfl rfl ?_
  refine r_ic G (pn := 135) rfl rfl  ?_
  refine r_if2 G (pn := 138) rfl rfl (fun _ => ?_) (fun c135 => absurd (by decide) c135)
  refine r_vret G rfl (hq k14 L ⟨A, O1, O2, ⟨⟨fun i => if i = 2 then 1 else 0, fun _ => 0, fun _ => 1, fun _ => 0, fun _ => 0, fun _ _ => 0⟩, O3, ⟨_, O32, fun i hi => absurd hi (Nat.not_lt_zero i)⟩, ⟨_, O33, fun i hi => (by show (0 : Int32) = nI 1 - 1; decide)⟩, ⟨_, O34, fun i hi _ => rfl⟩, G4⟩, ⟨O35, ⟨_, O36⟩, ⟨_, O37⟩, ⟨_, O38⟩⟩, ⟨O39, _, O40, fun i hi => absurd hi (Nat.not_lt_zero i)⟩, ⟨_, O41⟩, ⟨⟨0, 0, _, _, O43, G44⟩, ⟨0, O58⟩, ⟨_, O60⟩⟩, ⟨_, O59⟩, ⟨0, 0, _, _, O61, O62, O63⟩, ⟨O64, Nat.zero_le _, _, O65, fun i hi => absurd hi (Nat.not_lt_zero i)⟩, ⟨_, _, O66, O67⟩, ⟨_, O68⟩, ⟨fun _ => 0, fun _ _ => 0, fun _ _ => 0, fun _ _ => 0, ⟨⟨_, O42, fun i hi => ?_⟩, fun i hi => ?_⟩, fun i hi => absurd hi (Nat.not_lt_zero i), fun i hi q hq => ⟨rfl, rfl⟩⟩⟩)
  · rcases (show i = 0 ∨ i = 1 ∨ i = 2 by omega) with z | z | z <;> subst z <;> rfl
  · rcases (show i = 0 ∨ i = 1 ∨ i = 2 by omega) with z | z | z
    · subst z; exact ⟨O69, O70, O71, O72⟩
    · subst z; exact ⟨O73, O74, O75, O76⟩
    · subst z; exact ⟨O77, O78, O79, O80⟩
end
