def capN (x : Int32) : Nat := if x < 2 then 2 else if 5 < x then 5 else x.toNatClampNeg
theorem capN_ok (x : Int32) : 2 ≤ capN x ∧ capN x ≤ 5 ∧ (x < 2 → nI (capN x) = 2) ∧ (¬ x < 2 → 5 < x → nI (capN x) = 5) ∧ (¬ x < 2 → ¬ 5 < x → nI (capN x) = x) := by
  unfold capN
  by_cases h1 : x < 2
  · rw [if_pos h1]
    exact ⟨by omega, by omega, fun _ => rfl, fun y => absurd h1 y, fun y => absurd h1 y⟩
  · rw [if_neg h1]
    by_cases h2 : 5 < x
    · rw [if_pos h2]
      exact ⟨by omega, by omega, fun y => absurd y h1, fun _ _ => rfl, fun _ y => absurd h2 y⟩
    · rw [if_neg h2]
      obtain ⟨k, hk, e⟩ := in_nat (x := x) (n := 6) (by omega) (fun z => h1 (Int32.lt_trans z (by decide))) (fun z => h2 (Int32.lt_of_lt_of_le (by decide) z))
      subst e
      rw [nI_clamp (by omega)]
      refine ⟨Nat.not_lt.mp (fun y => h1 ((nI_ltI (b := 2) (by omega) (by omega)).mpr y)), by omega, fun y => absurd y h1, fun _ y => absurd y h2, fun _ _ => rfl⟩
theorem cap_cls (x : Int32) : (if (2 : Int32) < (if x < 5 then x else 5) then (if x < 5 then x else 5) else 2) = nI (capN x) := by
  obtain ⟨-, -, c1, c2, c3⟩ := capN_ok x
  by_cases h1 : x < 2
  · rw [c1 h1, if_pos (Int32.lt_trans h1 (by decide)), if_neg (fun y => Int32.lt_irrefl (Int32.lt_trans h1 y))]
  · by_cases h2 : 5 < x
    · rw [c2 h1 h2, if_neg (fun y => Int32.lt_irrefl (Int32.lt_trans h2 y))]
      rfl
    · rw [c3 h1 h2]
      by_cases h3 : x < 5
      · rw [if_pos h3]
        by_cases h4 : 2 < x
        · rw [if_pos h4]
        · rw [if_neg h4]
          exact Int32.le_antisymm (Int32.not_lt.mp h1) (Int32.not_lt.mp h4)
      · rw [if_neg h3]
        have : x = 5 := Int32.le_antisymm (Int32.not_lt.mp h2) (Int32.not_lt.mp h3)
        rw [this]
        rfl
section
variable {lx : am_Lx} {d : Nat} {h : am_H} {Q : am_Q}
theorem sp_131 {L : Nat} {xs : Nat → Int32} (hd : 1 ≤ d) (hL : L < 2 ^ 31) (hq : Q (some (.int (if 0 < L then xs 0 else 0))) h) : am_KA (L, xs) d 131 [.float 0, .int 0] h Q := by
  obtain ⟨e, rfl⟩ : ∃ e, d = e + 1 := ⟨d - 1, by omega⟩
  have G : am_GK (am_KA (L, xs) e) (cd_131 (L, xs)) := ⟨am_KA_m (L, xs) e, cm_131 (L, xs)⟩
  refine am_KA_in (by decide) (Nat.le_of_ble_eq_true rfl) ?_
  show am_Go (am_KA (L, xs) e) (am_fetch (cd_131 (L, xs))) Q 0 [some (.float 0), some (.int 0)] [] h 0 0
  refine r_il G (pn := 1) rfl rfl rfl ?_
  refine r_rf G (pn := 2) rfl rfl rfl ?_
  refine r_slen G (pn := 3) rfl rfl  ?_
  refine r_if2 G (pn := 6) rfl rfl (fun c3 => ?_) (fun c3 => ?_)
  · have c3 : nI L ≤ nI 0 := c3
    have : ¬ 0 < L := fun y => by have := (nI_leI (by omega) (by omega)).mp c3; omega
    rw [if_neg this] at hq
    refine r_ic G (pn := 13) rfl rfl  ?_
    refine r_iret G rfl rfl hq
  · have : 0 < L := Nat.pos_of_ne_zero (fun y => c3 (by show nI L ≤ nI 0; rw [y]; exact Int32.le_refl _))
    rw [if_pos this] at hq
    refine r_rf G (pn := 7) rfl rfl rfl ?_
    refine r_il G (pn := 8) rfl rfl rfl ?_
    refine r_sld G (pn := 9) rfl rfl (vp_in_nI (n := 0) this hL) ?_
    refine r_goto G rfl ?_
    refine r_iret G rfl rfl hq
theorem mk_i {K : am_K} {cd : List (Nat × am_T)} {Q : am_Q} {pc pp pn : Nat} {ls : am_L} {st : List Value} {h : am_H} {c z mc ms : Nat} {a n f : Nat} {k : Nat} {ci : Nat} {fs : List Value} {x : Int32} (G : am_GK K cd) (hf1 : am_fetch cd pc = am_newi .int mc ms) (hp1 : pc + 2 = pp) (hf2 : am_fetch cd pp = am_put ci f (.array .int)) (hp2 : pp + 3 = pn) (hx : x = nI k) (hk : k ≤ 65536) (hl : h.length = n) (hA : h[a]? = some (.inr (ci, fs))) (hf : f < fs.length) (h1 : c + 1 ≤ mc) (h2 : z + k ≤ ms) (kk : ∀ h', h'.length = n + 1 → (∀ i, i < n → i ≠ a → h'[i]? = h[i]?) → h'[a]? = some (.inr (ci, fs.set f (.ref n))) → h'[n]? = some (aI k (fun _ => 0)) → am_Go K (am_fetch cd) Q pn ls st h' (c + 1) (z + k)) : am_Go K (am_fetch cd) Q pc ls (.int x :: .ref a :: st) h c z := by
  subst hx
  have ek : (nI k).toNatClampNeg = k := nI_clamp (by omega)
  have ht : a < n := by rw [← hl]; exact (List.getElem?_eq_some_iff.mp hA).1
  refine r_newi G (pn := pp) hf1 hp1 (nI_pos (by omega)) (by rw [ek]; exact hk) h1 (by rw [ek]; exact h2) ?_
  rw [ek, hl]
  refine r_putr G (pn := pn) hf2 hp2 (ap_lt hA) hf rfl rfl ?_
  refine kk _ (by rw [List.length_set, List.length_append, hl]; rfl) (fun i h1 h2 => ap_fr (by omega) h2) (am_eq (ap_lt hA)) ?_
  rw [List.getElem?_set_ne (by omega), ← hl]
  exact ap_eq
theorem mk_l {K : am_K} {cd : List (Nat × am_T)} {Q : am_Q} {pc pp pn : Nat} {ls : am_L} {st : List Value} {h : am_H} {c z mc ms : Nat} {a n f : Nat} {k : Nat} {ci : Nat} {fs : List Value} {x : Int32} (G : am_GK K cd) (hf1 : am_fetch cd pc = am_newl mc ms) (hp1 : pc + 2 = pp) (hf2 : am_fetch cd pp = am_put ci f (.array .long)) (hp2 : pp + 3 = pn) (hx : x = nI k) (hk : k ≤ 65536) (hl : h.length = n) (hA : h[a]? = some (.inr (ci, fs))) (hf : f < fs.length) (h1 : c + 1 ≤ mc) (h2 : z + k ≤ ms) (kk : ∀ h', h'.length = n + 1 → (∀ i, i < n → i ≠ a → h'[i]? = h[i]?) → h'[a]? = some (.inr (ci, fs.set f (.ref n))) → h'[n]? = some (aL k (fun _ => 0)) → am_Go K (am_fetch cd) Q pn ls st h' (c + 1) (z + k)) : am_Go K (am_fetch cd) Q pc ls (.int x :: .ref a :: st) h c z := by
  subst hx
  have ek : (nI k).toNatClampNeg = k := nI_clamp (by omega)
  have ht : a < n := by rw [← hl]; exact (List.getElem?_eq_some_iff.mp hA).1
  refine r_newl G (pn := pp) hf1 hp1 (nI_pos (by omega)) (by rw [ek]; exact hk) h1 (by rw [ek]; exact h2) ?_
  rw [ek, hl]
  refine r_putr G (pn := pn) hf2 hp2 (ap_lt hA) hf rfl rfl ?_
  refine kk _ (by rw [List.length_set, List.length_append, hl]; rfl) (fun i h1 h2 => ap_fr (by omega) h2) (am_eq (ap_lt hA)) ?_
  rw [List.getElem?_set_ne (by omega), ← hl]
  exact ap_eq
set_option maxRecDepth 20000 in
theorem sp_26 (hd : 1 ≤ d) {x : Int32} (hn : h.length = 82) (ha : h[81]? = some (.inr (11, [.int 0, .null, .int 0, .int 0, .null, .int 0, .null, .null, .null, .null, .int 0, .null, .int 0, .null, .null, .int 0, .null, .null, .int 0, .int 0, .null, .null, .null, .int 0, .int 0, .null, .null, .null, .null, .null, .null, .int 0, .null, .null, .int 0, .null]))) (hq : ∀ h', (∀ i, i < 81 → h'[i]? = h[i]?) → h'[81]? = some (mO (fun i => if i = 0 then nI (capN x) else 0)) → h'[82]? = some (aI 24 (fun _ => 0)) → h'[83]? = some (aL 12 (fun _ => 0)) → h'[84]? = some (aI 3 (fun _ => 0)) → h'[85]? = some (aI 9 (fun _ => 0)) → h'[86]? = some (aI 27 (fun _ => 0)) → h'[87]? = some (aI 27 (fun _ => 0)) → h'[88]? = some (aI 205 (fun _ => 0)) → h'[89]? = some (aI 205 (fun _ => 0)) → h'[90]? = some (aI 5 (fun _ => 0)) → h'[91]? = some (aL 13 (fun _ => 0)) → h'[92]? = some (aI 13 (fun _ => 0)) → h'[93]? = some (aI 24 (fun _ => 0)) → h'[94]? = some (aI 576 (fun _ => 0)) → h'[95]? = some (aI 24 (fun _ => 0)) → h'[96]? = some (aI 10 (fun _ => 0)) → h'[97]? = some (aI 10 (fun _ => 0)) → h'[98]? = some (aI 100 (fun _ => 0)) → h'[99]? = some (aI 100 (fun _ => 0)) → h'[100]? = some (aI 10 (fun _ => 0)) → h'[101]? = some (aI 3 (fun _ => 0)) → h'[102]? = some (aI 10 (fun _ => 0)) → h'[103]? = some (aI 10 (fun _ => 0)) → h'[104]? = some (aI 3 (fun _ => 0)) → Q none h') : am_KA lx d 26 [.ref 81, .int x] h Q := by
  obtain ⟨e, rfl⟩ : ∃ e, d = e + 1 := ⟨d - 1, by omega⟩
  have G : am_GK (am_KA lx e) cd_26 := ⟨am_KA_m lx e, cm_26⟩
  refine am_KA_in (by decide) (Nat.le_of_ble_eq_true rfl) ?_
  show am_Go (am_KA lx e) (am_fetch cd_26) Q 0 [some (.ref 81), some (.int x)] [] h 0 0
  have A := ha
  have L : h.length = 82 := hn
  have F9 : ∀ i, i < 81 → h[i]? = h[i]? := fun _ _ => rfl
  refine r_ra G (pn := 1) rfl rfl rfl ?_
  refine r_obj G (pn := 4) rfl rfl (Nat.le_of_ble_eq_true rfl) ?_
  refine r_ra G (pn := 5) rfl rfl rfl ?_
  refine r_ic G (pn := 7) rfl rfl  ?_
  refine mk_i (pp := 9) (pn := 12) (n := 82) (f := 1) (k := 24) G rfl rfl rfl rfl rfl (Nat.le_of_ble_eq_true rfl) L A (Nat.le_of_ble_eq_true rfl) (Nat.le_of_ble_eq_true rfl) (Nat.le_of_ble_eq_true rfl) (fun h1 L F A C0 => ?_)
  have A : h1[81]? = some (.inr (11, [.int 0, .ref 82, .int 0, .int 0, .null, .int 0, .null, .null, .null, .null, .int 0, .null, .int 0, .null, .null, .int 0, .null, .null, .int 0, .int 0, .null, .null, .null, .int 0, .int 0, .null, .null, .null, .null, .null, .null, .int 0, .null, .null, .int 0, .null])) := A
  have F9 : ∀ i, i < 81 → h1[i]? = h[i]? := fun i h1 => (F i (by omega) (by omega)).trans (F9 i h1)
  clear F
  refine r_ra G (pn := 13) rfl rfl rfl ?_
  refine r_ic G (pn := 15) rfl rfl  ?_
  refine mk_l (pp := 17) (pn := 20) (n := 83) (f := 4) (k := 12) G rfl rfl rfl rfl rfl (Nat.le_of_ble_eq_true rfl) L A (Nat.le_of_ble_eq_true rfl) (Nat.le_of_ble_eq_true rfl) (Nat.le_of_ble_eq_true rfl) (fun h2 L F A C1 => ?_)
  have A : h2[81]? = some (.inr (11, [.int 0, .ref 82, .int 0, .int 0, .ref 83, .int 0, .null, .null, .null, .null, .int 0, .null, .int 0, .null, .null, .int 0, .null, .null, .int 0, .int 0, .null, .null, .null, .int 0, .int 0, .null, .null, .null, .null, .null, .null, .int 0, .null, .null, .int 0, .null])) := A
  have F9 : ∀ i, i < 81 → h2[i]? = h[i]? := fun i h1 => (F i (by omega) (by omega)).trans (F9 i h1)
  have C0 := (F 82 (by omega) (by omega)).trans C0
  clear F
  refine r_ra G (pn := 21) rfl rfl rfl ?_
  refine r_ic G (pn := 22) rfl rfl  ?_
  refine mk_i (pp := 24) (pn := 27) (n := 84) (f := 6) (k := 3) G rfl rfl rfl rfl rfl (Nat.le_of_ble_eq_true rfl) L A (Nat.le_of_ble_eq_true rfl) (Nat.le_of_ble_eq_true rfl) (Nat.le_of_ble_eq_true rfl) (fun h3 L F A C2 => ?_)
  have A : h3[81]? = some (.inr (11, [.int 0, .ref 82, .int 0, .int 0, .ref 83, .int 0, .ref 84, .null, .null, .null, .int 0, .null, .int 0, .null, .null, .int 0, .null, .null, .int 0, .int 0, .null, .null, .null, .int 0, .int 0, .null, .null, .null, .null, .null, .null, .int 0, .null, .null, .int 0, .null])) := A
  have F9 : ∀ i, i < 81 → h3[i]? = h[i]? := fun i h1 => (F i (by omega) (by omega)).trans (F9 i h1)
  have C0 := (F 82 (by omega) (by omega)).trans C0
  have C1 := (F 83 (by omega) (by omega)).trans C1
  clear F
  refine r_ra G (pn := 28) rfl rfl rfl ?_
  refine r_ic G (pn := 30) rfl rfl  ?_
  refine mk_i (pp := 32) (pn := 35) (n := 85) (f := 7) (k := 9) G rfl rfl rfl rfl rfl (Nat.le_of_ble_eq_true rfl) L A (Nat.le_of_ble_eq_true rfl) (Nat.le_of_ble_eq_true rfl) (Nat.le_of_ble_eq_true rfl) (fun h4 L F A C3 => ?_)
  have A : h4[81]? = some (.inr (11, [.int 0, .ref 82, .int 0, .int 0, .ref 83, .int 0, .ref 84, .ref 85, .null, .null, .int 0, .null, .int 0, .null, .null, .int 0, .null, .null, .int 0, .int 0, .null, .null, .null, .int 0, .int 0, .null, .null, .null, .null, .null, .null, .int 0, .null, .null, .int 0, .null])) := A
  have F9 : ∀ i, i < 81 → h4[i]? = h[i]? := fun i h1 => (F i (by omega) (by omega)).trans (F9 i h1)
  have C0 := (F 82 (by omega) (by omega)).trans C0
  have C1 := (F 83 (by omega) (by omega)).trans C1
  have C2 := (F 84 (by omega) (by omega)).trans C2
  clear F
  refine r_ra G (pn := 36) rfl rfl rfl ?_
  refine r_ic G (pn := 38) rfl rfl  ?_
  refine mk_i (pp := 40) (pn := 43) (n := 86) (f := 8) (k := 27) G rfl rfl rfl rfl rfl (Nat.le_of_ble_eq_true rfl) L A (Nat.le_of_ble_eq_true rfl) (Nat.le_of_ble_eq_true rfl) (Nat.le_of_ble_eq_true rfl) (fun h5 L F A C4 => ?_)
  have A : h5[81]? = some (.inr (11, [.int 0, .ref 82, .int 0, .int 0, .ref 83, .int 0, .ref 84, .ref 85, .ref 86, .null, .int 0, .null, .int 0, .null, .null, .int 0, .null, .null, .int 0, .int 0, .null, .null, .null, .int 0, .int 0, .null, .null, .null, .null, .null, .null, .int 0, .null, .null, .int 0, .null])) := A
  have F9 : ∀ i, i < 81 → h5[i]? = h[i]? := fun i h1 => (F i (by omega) (by omega)).trans (F9 i h1)
  have C0 := (F 82 (by omega) (by omega)).trans C0
  have C1 := (F 83 (by omega) (by omega)).trans C1
  have C2 := (F 84 (by omega) (by omega)).trans C2
  have C3 := (F 85 (by omega) (by omega)).trans C3
  clear F
  refine r_ra G (pn := 44) rfl rfl rfl ?_
  refine r_ic G (pn := 46) rfl rfl  ?_
  refine mk_i (pp := 48) (pn := 51) (n := 87) (f := 9) (k := 27) G rfl rfl rfl rfl rfl (Nat.le_of_ble_eq_true rfl) L A (Nat.le_of_ble_eq_true rfl) (Nat.le_of_ble_eq_true rfl) (Nat.le_of_ble_eq_true rfl) (fun h6 L F A C5 => ?_)
  have A : h6[81]? = some (.inr (11, [.int 0, .ref 82, .int 0, .int 0, .ref 83, .int 0, .ref 84, .ref 85, .ref 86, .ref 87, .int 0, .null, .int 0, .null, .null, .int 0, .null, .null, .int 0, .int 0, .null, .null, .null, .int 0, .int 0, .null, .null, .null, .null, .null, .null, .int 0, .null, .null, .int 0, .null])) := A
  have F9 : ∀ i, i < 81 → h6[i]? = h[i]? := fun i h1 => (F i (by omega) (by omega)).trans (F9 i h1)
  have C0 := (F 82 (by omega) (by omega)).trans C0
  have C1 := (F 83 (by omega) (by omega)).trans C1
  have C2 := (F 84 (by omega) (by omega)).trans C2
  have C3 := (F 85 (by omega) (by omega)).trans C3
  have C4 := (F 86 (by omega) (by omega)).trans C4
  clear F
  refine r_ra G (pn := 52) rfl rfl rfl ?_
  refine r_ic G (pn := 55) rfl rfl  ?_
  refine mk_i (pp := 57) (pn := 60) (n := 88) (f := 11) (k := 205) G rfl rfl rfl rfl rfl (Nat.le_of_ble_eq_true rfl) L A (Nat.le_of_ble_eq_true rfl) (Nat.le_of_ble_eq_true rfl) (Nat.le_of_ble_eq_true rfl) (fun h7 L F A C6 => ?_)
  have A : h7[81]? = some (.inr (11, [.int 0, .ref 82, .int 0, .int 0, .ref 83, .int 0, .ref 84, .ref 85, .ref 86, .ref 87, .int 0, .ref 88, .int 0, .null, .null, .int 0, .null, .null, .int 0, .int 0, .null, .null, .null, .int 0, .int 0, .null, .null, .null, .null, .null, .null, .int 0, .null, .null, .int 0, .null])) := A
  have F9 : ∀ i, i < 81 → h7[i]? = h[i]? := fun i h1 => (F i (by omega) (by omega)).trans (F9 i h1)
  have C0 := (F 82 (by omega) (by omega)).trans C0
  have C1 := (F 83 (by omega) (by omega)).trans C1
  have C2 := (F 84 (by omega) (by omega)).trans C2
  have C3 := (F 85 (by omega) (by omega)).trans C3
  have C4 := (F 86 (by omega) (by omega)).trans C4
  have C5 := (F 87 (by omega) (by omega)).trans C5
  clear F
  refine r_ra G (pn := 61) rfl rfl rfl ?_
  refine r_ic G (pn := 64) rfl rfl  ?_
  refine mk_i (pp := 66) (pn := 69) (n := 89) (f := 13) (k := 205) G rfl rfl rfl rfl rfl (Nat.le_of_ble_eq_true rfl) L A (Nat.le_of_ble_eq_true rfl) (Nat.le_of_ble_eq_true rfl) (Nat.le_of_ble_eq_true rfl) (fun h8 L F A C7 => ?_)
  have A : h8[81]? = some (.inr (11, [.int 0, .ref 82, .int 0, .int 0, .ref 83, .int 0, .ref 84, .ref 85, .ref 86, .ref 87, .int 0, .ref 88, .int 0, .ref 89, .null, .int 0, .null, .null, .int 0, .int 0, .null, .null, .null, .int 0, .int 0, .null, .null, .null, .null, .null, .null, .int 0, .null, .null, .int 0, .null])) := A
  have F9 : ∀ i, i < 81 → h8[i]? = h[i]? := fun i h1 => (F i (by omega) (by omega)).trans (F9 i h1)
  have C0 := (F 82 (by omega) (by omega)).trans C0
  have C1 := (F 83 (by omega) (by omega)).trans C1
  have C2 := (F 84 (by omega) (by omega)).trans C2
  have C3 := (F 85 (by omega) (by omega)).trans C3
  have C4 := (F 86 (by omega) (by omega)).trans C4
  have C5 := (F 87 (by omega) (by omega)).trans C5
  have C6 := (F 88 (by omega) (by omega)).trans C6
  clear F
  refine r_ra G (pn := 70) rfl rfl rfl ?_
  refine r_ic G (pn := 71) rfl rfl  ?_
  refine mk_i (pp := 73) (pn := 76) (n := 90) (f := 14) (k := 5) G rfl rfl rfl rfl rfl (Nat.le_of_ble_eq_true rfl) L A (Nat.le_of_ble_eq_true rfl) (Nat.le_of_ble_eq_true rfl) (Nat.le_of_ble_eq_true rfl) (fun h9 L F A C8 => ?_)
  have A : h9[81]? = some (.inr (11, [.int 0, .ref 82, .int 0, .int 0, .ref 83, .int 0, .ref 84, .ref 85, .ref 86, .ref 87, .int 0, .ref 88, .int 0, .ref 89, .ref 90, .int 0, .null, .null, .int 0, .int 0, .null, .null, .null, .int 0, .int 0, .null, .null, .null, .null, .null, .null, .int 0, .null, .null, .int 0, .null])) := A
  have F9 : ∀ i, i < 81 → h9[i]? = h[i]? := fun i h1 => (F i (by omega) (by omega)).trans (F9 i h1)
  have C0 := (F 82 (by omega) (by omega)).trans C0
  have C1 := (F 83 (by omega) (by omega)).trans C1
  have C2 := (F 84 (by omega) (by omega)).trans C2
  have C3 := (F 85 (by omega) (by omega)).trans C3
  have C4 := (F 86 (by omega) (by omega)).trans C4
  have C5 := (F 87 (by omega) (by omega)).trans C5
  have C6 := (F 88 (by omega) (by omega)).trans C6
  have C7 := (F 89 (by omega) (by omega)).trans C7
  clear F
  refine r_ra G (pn := 77) rfl rfl rfl ?_
  refine r_ic G (pn := 79) rfl rfl  ?_
  refine mk_l (pp := 81) (pn := 84) (n := 91) (f := 16) (k := 13) G rfl rfl rfl rfl rfl (Nat.le_of_ble_eq_true rfl) L A (Nat.le_of_ble_eq_true rfl) (Nat.le_of_ble_eq_true rfl) (Nat.le_of_ble_eq_true rfl) (fun h10 L F A C9 => ?_)
  have A : h10[81]? = some (.inr (11, [.int 0, .ref 82, .int 0, .int 0, .ref 83, .int 0, .ref 84, .ref 85, .ref 86, .ref 87, .int 0, .ref 88, .int 0, .ref 89, .ref 90, .int 0, .ref 91, .null, .int 0, .int 0, .null, .null, .null, .int 0, .int 0, .null, .null, .null, .null, .null, .null, .int 0, .null, .null, .int 0, .null])) := A
  have F9 : ∀ i, i < 81 → h10[i]? = h[i]? := fun i h1 => (F i (by omega) (by omega)).trans (F9 i h1)
  have C0 := (F 82 (by omega) (by omega)).trans C0
  have C1 := (F 83 (by omega) (by omega)).trans C1
  have C2 := (F 84 (by omega) (by omega)).trans C2
  have C3 := (F 85 (by omega) (by omega)).trans C3
  have C4 := (F 86 (by omega) (by omega)).trans C4
  have C5 := (F 87 (by omega) (by omega)).trans C5
  have C6 := (F 88 (by omega) (by omega)).trans C6
  have C7 := (F 89 (by omega) (by omega)).trans C7
  have C8 := (F 90 (by omega) (by omega)).trans C8
  clear F
  refine r_ra G (pn := 85) rfl rfl rfl ?_
  refine r_ic G (pn := 87) rfl rfl  ?_
  refine mk_i (pp := 89) (pn := 92) (n := 92) (f := 17) (k := 13) G rfl rfl rfl rfl rfl (Nat.le_of_ble_eq_true rfl) L A (Nat.le_of_ble_eq_true rfl) (Nat.le_of_ble_eq_true rfl) (Nat.le_of_ble_eq_true rfl) (fun h11 L F A C10 => ?_)
  have A : h11[81]? = some (.inr (11, [.int 0, .ref 82, .int 0, .int 0, .ref 83, .int 0, .ref 84, .ref 85, .ref 86, .ref 87, .int 0, .ref 88, .int 0, .ref 89, .ref 90, .int 0, .ref 91, .ref 92, .int 0, .int 0, .null, .null, .null, .int 0, .int 0, .null, .null, .null, .null, .null, .null, .int 0, .null, .null, .int 0, .null])) := A
  have F9 : ∀ i, i < 81 → h11[i]? = h[i]? := fun i h1 => (F i (by omega) (by omega)).trans (F9 i h1)
  have C0 := (F 82 (by omega) (by omega)).trans C0
  have C1 := (F 83 (by omega) (by omega)).trans C1
  have C2 := (F 84 (by omega) (by omega)).trans C2
  have C3 := (F 85 (by omega) (by omega)).trans C3
  have C4 := (F 86 (by omega) (by omega)).trans C4
  have C5 := (F 87 (by omega) (by omega)).trans C5
  have C6 := (F 88 (by omega) (by omega)).trans C6
  have C7 := (F 89 (by omega) (by omega)).trans C7
  have C8 := (F 90 (by omega) (by omega)).trans C8
  have C9 := (F 91 (by omega) (by omega)).trans C9
  clear F
  refine r_ra G (pn := 93) rfl rfl rfl ?_
  refine r_ic G (pn := 95) rfl rfl  ?_
  refine mk_i (pp := 97) (pn := 100) (n := 93) (f := 20) (k := 24) G rfl rfl rfl rfl rfl (Nat.le_of_ble_eq_true rfl) L A (Nat.le_of_ble_eq_true rfl) (Nat.le_of_ble_eq_true rfl) (Nat.le_of_ble_eq_true rfl) (fun h12 L F A C11 => ?_)
  have A : h12[81]? = some (.inr (11, [.int 0, .ref 82, .int 0, .int 0, .ref 83, .int 0, .ref 84, .ref 85, .ref 86, .ref 87, .int 0, .ref 88, .int 0, .ref 89, .ref 90, .int 0, .ref 91, .ref 92, .int 0, .int 0, .ref 93, .null, .null, .int 0, .int 0, .null, .null, .null, .null, .null, .null, .int 0, .null, .null, .int 0, .null])) := A
  have F9 : ∀ i, i < 81 → h12[i]? = h[i]? := fun i h1 => (F i (by omega) (by omega)).trans (F9 i h1)
  have C0 := (F 82 (by omega) (by omega)).trans C0
  have C1 := (F 83 (by omega) (by omega)).trans C1
  have C2 := (F 84 (by omega) (by omega)).trans C2
  have C3 := (F 85 (by omega) (by omega)).trans C3
  have C4 := (F 86 (by omega) (by omega)).trans C4
  have C5 := (F 87 (by omega) (by omega)).trans C5
  have C6 := (F 88 (by omega) (by omega)).trans C6
  have C7 := (F 89 (by omega) (by omega)).trans C7
  have C8 := (F 90 (by omega) (by omega)).trans C8
  have C9 := (F 91 (by omega) (by omega)).trans C9
  have C10 := (F 92 (by omega) (by omega)).trans C10
  clear F
  refine r_ra G (pn := 101) rfl rfl rfl ?_
  refine r_ic G (pn := 104) rfl rfl  ?_
  refine mk_i (pp := 106) (pn := 109) (n := 94) (f := 21) (k := 576) G rfl rfl rfl rfl rfl (Nat.le_of_ble_eq_true rfl) L A (Nat.le_of_ble_eq_true rfl) (Nat.le_of_ble_eq_true rfl) (Nat.le_of_ble_eq_true rfl) (fun h13 L F A C12 => ?_)
  have A : h13[81]? = some (.inr (11, [.int 0, .ref 82, .int 0, .int 0, .ref 83, .int 0, .ref 84, .ref 85, .ref 86, .ref 87, .int 0, .ref 88, .int 0, .ref 89, .ref 90, .int 0, .ref 91, .ref 92, .int 0, .int 0, .ref 93, .ref 94, .null, .int 0, .int 0, .null, .null, .null, .null, .null, .null, .int 0, .null, .null, .int 0, .null])) := A
  have F9 : ∀ i, i < 81 → h13[i]? = h[i]? := fun i h1 => (F i (by omega) (by omega)).trans (F9 i h1)
  have C0 := (F 82 (by omega) (by omega)).trans C0
  have C1 := (F 83 (by omega) (by omega)).trans C1
  have C2 := (F 84 (by omega) (by omega)).trans C2
  have C3 := (F 85 (by omega) (by omega)).trans C3
  have C4 := (F 86 (by omega) (by omega)).trans C4
  have C5 := (F 87 (by omega) (by omega)).trans C5
  have C6 := (F 88 (by omega) (by omega)).trans C6
  have C7 := (F 89 (by omega) (by omega)).trans C7
  have C8 := (F 90 (by omega) (by omega)).trans C8
  have C9 := (F 91 (by omega) (by omega)).trans C9
  have C10 := (F 92 (by omega) (by omega)).trans C10
  have C11 := (F 93 (by omega) (by omega)).trans C11
  clear F
  refine r_ra G (pn := 110) rfl rfl rfl ?_
  refine r_ic G (pn := 112) rfl rfl  ?_
  refine mk_i (pp := 114) (pn := 117) (n := 95) (f := 22) (k := 24) G rfl rfl rfl rfl rfl (Nat.le_of_ble_eq_true rfl) L A (Nat.le_of_ble_eq_true rfl) (Nat.le_of_ble_eq_true rfl) (Nat.le_of_ble_eq_true rfl) (fun h14 L F A C13 => ?_)
  have A : h14[81]? = some (.inr (11, [.int 0, .ref 82, .int 0, .int 0, .ref 83, .int 0, .ref 84, .ref 85, .ref 86, .ref 87, .int 0, .ref 88, .int 0, .ref 89, .ref 90, .int 0, .ref 91, .ref 92, .int 0, .int 0, .ref 93, .ref 94, .ref 95, .int 0, .int 0, .null, .null, .null, .null, .null, .null, .int 0, .null, .null, .int 0, .null])) := A
  have F9 : ∀ i, i < 81 → h14[i]? = h[i]? := fun i h1 => (F i (by omega) (by omega)).trans (F9 i h1)
  have C0 := (F 82 (by omega) (by omega)).trans C0
  have C1 := (F 83 (by omega) (by omega)).trans C1
  have C2 := (F 84 (by omega) (by omega)).trans C2
  have C3 := (F 85 (by omega) (by omega)).trans C3
  have C4 := (F 86 (by omega) (by omega)).trans C4
  have C5 := (F 87 (by omega) (by omega)).trans C5
  have C6 := (F 88 (by omega) (by omega)).trans C6
  have C7 := (F 89 (by omega) (by omega)).trans C7
  have C8 := (F 90 (by omega) (by omega)).trans C8
  have C9 := (F 91 (by omega) (by omega)).trans C9
  have C10 := (F 92 (by omega) (by omega)).trans C10
  have C11 := (F 93 (by omega) (by omega)).trans C11
  have C12 := (F 94 (by omega) (by omega)).trans C12
  clear F
  refine r_ra G (pn := 118) rfl rfl rfl ?_
  refine r_ic G (pn := 120) rfl rfl  ?_
  refine mk_i (pp := 122) (pn := 125) (n := 96) (f := 25) (k := 10) G rfl rfl rfl rfl rfl (Nat.le_of_ble_eq_true rfl) L A (Nat.le_of_ble_eq_true rfl) (Nat.le_of_ble_eq_true rfl) (Nat.le_of_ble_eq_true rfl) (fun h15 L F A C14 => ?_)
  have A : h15[81]? = some (.inr (11, [.int 0, .ref 82, .int 0, .int 0, .ref 83, .int 0, .ref 84, .ref 85, .ref 86, .ref 87, .int 0, .ref 88, .int 0, .ref 89, .ref 90, .int 0, .ref 91, .ref 92, .int 0, .int 0, .ref 93, .ref 94, .ref 95, .int 0, .int 0, .ref 96, .null, .null, .null, .null, .null, .int 0, .null, .null, .int 0, .null])) := A
  have F9 : ∀ i, i < 81 → h15[i]? = h[i]? := fun i h1 => (F i (by omega) (by omega)).trans (F9 i h1)
  have C0 := (F 82 (by omega) (by omega)).trans C0
  have C1 := (F 83 (by omega) (by omega)).trans C1
  have C2 := (F 84 (by omega) (by omega)).trans C2
  have C3 := (F 85 (by omega) (by omega)).trans C3
  have C4 := (F 86 (by omega) (by omega)).trans C4
  have C5 := (F 87 (by omega) (by omega)).trans C5
  have C6 := (F 88 (by omega) (by omega)).trans C6
  have C7 := (F 89 (by omega) (by omega)).trans C7
  have C8 := (F 90 (by omega) (by omega)).trans C8
  have C9 := (F 91 (by omega) (by omega)).trans C9
  have C10 := (F 92 (by omega) (by omega)).trans C10
  have C11 := (F 93 (by omega) (by omega)).trans C11
  have C12 := (F 94 (by omega) (by omega)).trans C12
  have C13 := (F 95 (by omega) (by omega)).trans C13
  clear F
  refine r_ra G (pn := 126) rfl rfl rfl ?_
  refine r_ic G (pn := 128) rfl rfl  ?_
  refine mk_i (pp := 130) (pn := 133) (n := 97) (f := 26) (k := 10) G rfl rfl rfl rfl rfl (Nat.le_of_ble_eq_true rfl) L A (Nat.le_of_ble_eq_true rfl) (Nat.le_of_ble_eq_true rfl) (Nat.le_of_ble_eq_true rfl) (fun h16 L F A C15 => ?_)
  have A : h16[81]? = some (.inr (11, [.int 0, .ref 82, .int 0, .int 0, .ref 83, .int 0, .ref 84, .ref 85, .ref 86, .ref 87, .int 0, .ref 88, .int 0, .ref 89, .ref 90, .int 0, .ref 91, .ref 92, .int 0, .int 0, .ref 93, .ref 94, .ref 95, .int 0, .int 0, .ref 96, .ref 97, .null, .null, .null, .null, .int 0, .null, .null, .int 0, .null])) := A
  have F9 : ∀ i, i < 81 → h16[i]? = h[i]? := fun i h1 => (F i (by omega) (by omega)).trans (F9 i h1)
  have C0 := (F 82 (by omega) (by omega)).trans C0
  have C1 := (F 83 (by omega) (by omega)).trans C1
  have C2 := (F 84 (by omega) (by omega)).trans C2
  have C3 := (F 85 (by omega) (by omega)).trans C3
  have C4 := (F 86 (by omega) (by omega)).trans C4
  have C5 := (F 87 (by omega) (by omega)).trans C5
  have C6 := (F 88 (by omega) (by omega)).trans C6
  have C7 := (F 89 (by omega) (by omega)).trans C7
  have C8 := (F 90 (by omega) (by omega)).trans C8
  have C9 := (F 91 (by omega) (by omega)).trans C9
  have C10 := (F 92 (by omega) (by omega)).trans C10
  have C11 := (F 93 (by omega) (by omega)).trans C11
  have C12 := (F 94 (by omega) (by omega)).trans C12
  have C13 := (F 95 (by omega) (by omega)).trans C13
  have C14 := (F 96 (by omega) (by omega)).trans C14
  clear F
  refine r_ra G (pn := 134) rfl rfl rfl ?_
  refine r_ic G (pn := 136) rfl rfl  ?_
  refine mk_i (pp := 138) (pn := 141) (n := 98) (f := 27) (k := 100) G rfl rfl rfl rfl rfl (Nat.le_of_ble_eq_true rfl) L A (Nat.le_of_ble_eq_true rfl) (Nat.le_of_ble_eq_true rfl) (Nat.le_of_ble_eq_true rfl) (fun h17 L F A C16 => ?_)
  have A : h17[81]? = some (.inr (11, [.int 0, .ref 82, .int 0, .int 0, .ref 83, .int 0, .ref 84, .ref 85, .ref 86, .ref 87, .int 0, .ref 88, .int 0, .ref 89, .ref 90, .int 0, .ref 91, .ref 92, .int 0, .int 0, .ref 93, .ref 94, .ref 95, .int 0, .int 0, .ref 96, .ref 97, .ref 98, .null, .null, .null, .int 0, .null, .null, .int 0, .null])) := A
  have F9 : ∀ i, i < 81 → h17[i]? = h[i]? := fun i h1 => (F i (by omega) (by omega)).trans (F9 i h1)
  have C0 := (F 82 (by omega) (by omega)).trans C0
  have C1 := (F 83 (by omega) (by omega)).trans C1
  have C2 := (F 84 (by omega) (by omega)).trans C2
  have C3 := (F 85 (by omega) (by omega)).trans C3
  have C4 := (F 86 (by omega) (by omega)).trans C4
  have C5 := (F 87 (by omega) (by omega)).trans C5
  have C6 := (F 88 (by omega) (by omega)).trans C6
  have C7 := (F 89 (by omega) (by omega)).trans C7
  have C8 := (F 90 (by omega) (by omega)).trans C8
  have C9 := (F 91 (by omega) (by omega)).trans C9
  have C10 := (F 92 (by omega) (by omega)).trans C10
  have C11 := (F 93 (by omega) (by omega)).trans C11
  have C12 := (F 94 (by omega) (by omega)).trans C12
  have C13 := (F 95 (by omega) (by omega)).trans C13
  have C14 := (F 96 (by omega) (by omega)).trans C14
  have C15 := (F 97 (by omega) (by omega)).trans C15
  clear F
  refine r_ra G (pn := 142) rfl rfl rfl ?_
  refine r_ic G (pn := 144) rfl rfl  ?_
  refine mk_i (pp := 146) (pn := 149) (n := 99) (f := 28) (k := 100) G rfl rfl rfl rfl rfl (Nat.le_of_ble_eq_true rfl) L A (Nat.le_of_ble_eq_true rfl) (Nat.le_of_ble_eq_true rfl) (Nat.le_of_ble_eq_true rfl) (fun h18 L F A C17 => ?_)
  have A : h18[81]? = some (.inr (11, [.int 0, .ref 82, .int 0, .int 0, .ref 83, .int 0, .ref 84, .ref 85, .ref 86, .ref 87, .int 0, .ref 88, .int 0, .ref 89, .ref 90, .int 0, .ref 91, .ref 92, .int 0, .int 0, .ref 93, .ref 94, .ref 95, .int 0, .int 0, .ref 96, .ref 97, .ref 98, .ref 99, .null, .null, .int 0, .null, .null, .int 0, .null])) := A
  have F9 : ∀ i, i < 81 → h18[i]? = h[i]? := fun i h1 => (F i (by omega) (by omega)).trans (F9 i h1)
  have C0 := (F 82 (by omega) (by omega)).trans C0
  have C1 := (F 83 (by omega) (by omega)).trans C1
  have C2 := (F 84 (by omega) (by omega)).trans C2
  have C3 := (F 85 (by omega) (by omega)).trans C3
  have C4 := (F 86 (by omega) (by omega)).trans C4
  have C5 := (F 87 (by omega) (by omega)).trans C5
  have C6 := (F 88 (by omega) (by omega)).trans C6
  have C7 := (F 89 (by omega) (by omega)).trans C7
  have C8 := (F 90 (by omega) (by omega)).trans C8
  have C9 := (F 91 (by omega) (by omega)).trans C9
  have C10 := (F 92 (by omega) (by omega)).trans C10
  have C11 := (F 93 (by omega) (by omega)).trans C11
  have C12 := (F 94 (by omega) (by omega)).trans C12
  have C13 := (F 95 (by omega) (by omega)).trans C13
  have C14 := (F 96 (by omega) (by omega)).trans C14
  have C15 := (F 97 (by omega) (by omega)).trans C15
  have C16 := (F 98 (by omega) (by omega)).trans C16
  clear F
  refine r_ra G (pn := 150) rfl rfl rfl ?_
  refine r_ic G (pn := 152) rfl rfl  ?_
  refine mk_i (pp := 154) (pn := 157) (n := 100) (f := 29) (k := 10) G rfl rfl rfl rfl rfl (Nat.le_of_ble_eq_true rfl) L A (Nat.le_of_ble_eq_true rfl) (Nat.le_of_ble_eq_true rfl) (Nat.le_of_ble_eq_true rfl) (fun h19 L F A C18 => ?_)
  have A : h19[81]? = some (.inr (11, [.int 0, .ref 82, .int 0, .int 0, .ref 83, .int 0, .ref 84, .ref 85, .ref 86, .ref 87, .int 0, .ref 88, .int 0, .ref 89, .ref 90, .int 0, .ref 91, .ref 92, .int 0, .int 0, .ref 93, .ref 94, .ref 95, .int 0, .int 0, .ref 96, .ref 97, .ref 98, .ref 99, .ref 100, .null, .int 0, .null, .null, .int 0, .null])) := A
  have F9 : ∀ i, i < 81 → h19[i]? = h[i]? := fun i h1 => (F i (by omega) (by omega)).trans (F9 i h1)
  have C0 := (F 82 (by omega) (by omega)).trans C0
  have C1 := (F 83 (by omega) (by omega)).trans C1
  have C2 := (F 84 (by omega) (by omega)).trans C2
  have C3 := (F 85 (by omega) (by omega)).trans C3
  have C4 := (F 86 (by omega) (by omega)).trans C4
  have C5 := (F 87 (by omega) (by omega)).trans C5
  have C6 := (F 88 (by omega) (by omega)).trans C6
  have C7 := (F 89 (by omega) (by omega)).trans C7
  have C8 := (F 90 (by omega) (by omega)).trans C8
  have C9 := (F 91 (by omega) (by omega)).trans C9
  have C10 := (F 92 (by omega) (by omega)).trans C10
  have C11 := (F 93 (by omega) (by omega)).trans C11
  have C12 := (F 94 (by omega) (by omega)).trans C12
  have C13 := (F 95 (by omega) (by omega)).trans C13
  have C14 := (F 96 (by omega) (by omega)).trans C14
  have C15 := (F 97 (by omega) (by omega)).trans C15
  have C16 := (F 98 (by omega) (by omega)).trans C16
  have C17 := (F 99 (by omega) (by omega)).trans C17
  clear F
  refine r_ra G (pn := 158) rfl rfl rfl ?_
  refine r_ic G (pn := 159) rfl rfl  ?_
  refine mk_i (pp := 161) (pn := 164) (n := 101) (f := 30) (k := 3) G rfl rfl rfl rfl rfl (Nat.le_of_ble_eq_true rfl) L A (Nat.le_of_ble_eq_true rfl) (Nat.le_of_ble_eq_true rfl) (Nat.le_of_ble_eq_true rfl) (fun h20 L F A C19 => ?_)
  have A : h20[81]? = some (.inr (11, [.int 0, .ref 82, .int 0, .int 0, .ref 83, .int 0, .ref 84, .ref 85, .ref 86, .ref 87, .int 0, .ref 88, .int 0, .ref 89, .ref 90, .int 0, .ref 91, .ref 92, .int 0, .int 0, .ref 93, .ref 94, .ref 95, .int 0, .int 0, .ref 96, .ref 97, .ref 98, .ref 99, .ref 100, .ref 101, .int 0, .null, .null, .int 0, .null])) := A
  have F9 : ∀ i, i < 81 → h20[i]? = h[i]? := fun i h1 => (F i (by omega) (by omega)).trans (F9 i h1)
  have C0 := (F 82 (by omega) (by omega)).trans C0
  have C1 := (F 83 (by omega) (by omega)).trans C1
  have C2 := (F 84 (by omega) (by omega)).trans C2
  have C3 := (F 85 (by omega) (by omega)).trans C3
  have C4 := (F 86 (by omega) (by omega)).trans C4
  have C5 := (F 87 (by omega) (by omega)).trans C5
  have C6 := (F 88 (by omega) (by omega)).trans C6
  have C7 := (F 89 (by omega) (by omega)).trans C7
  have C8 := (F 90 (by omega) (by omega)).trans C8
  have C9 := (F 91 (by omega) (by omega)).trans C9
  have C10 := (F 92 (by omega) (by omega)).trans C10
  have C11 := (F 93 (by omega) (by omega)).trans C11
  have C12 := (F 94 (by omega) (by omega)).trans C12
  have C13 := (F 95 (by omega) (by omega)).trans C13
  have C14 := (F 96 (by omega) (by omega)).trans C14
  have C15 := (F 97 (by omega) (by omega)).trans C15
  have C16 := (F 98 (by omega) (by omega)).trans C16
  have C17 := (F 99 (by omega) (by omega)).trans C17
  have C18 := (F 100 (by omega) (by omega)).trans C18
  clear F
  refine r_ra G (pn := 165) rfl rfl rfl ?_
  refine r_ic G (pn := 167) rfl rfl  ?_
  refine mk_i (pp := 169) (pn := 172) (n := 102) (f := 32) (k := 10) G rfl rfl rfl rfl rfl (Nat.le_of_ble_eq_true rfl) L A (Nat.le_of_ble_eq_true rfl) (Nat.le_of_ble_eq_true rfl) (Nat.le_of_ble_eq_true rfl) (fun h21 L F A C20 => ?_)
  have A : h21[81]? = some (.inr (11, [.int 0, .ref 82, .int 0, .int 0, .ref 83, .int 0, .ref 84, .ref 85, .ref 86, .ref 87, .int 0, .ref 88, .int 0, .ref 89, .ref 90, .int 0, .ref 91, .ref 92, .int 0, .int 0, .ref 93, .ref 94, .ref 95, .int 0, .int 0, .ref 96, .ref 97, .ref 98, .ref 99, .ref 100, .ref 101, .int 0, .ref 102, .null, .int 0, .null])) := A
  have F9 : ∀ i, i < 81 → h21[i]? = h[i]? := fun i h1 => (F i (by omega) (by omega)).trans (F9 i h1)
  have C0 := (F 82 (by omega) (by omega)).trans C0
  have C1 := (F 83 (by omega) (by omega)).trans C1
  have C2 := (F 84 (by omega) (by omega)).trans C2
  have C3 := (F 85 (by omega) (by omega)).trans C3
  have C4 := (F 86 (by omega) (by omega)).trans C4
  have C5 := (F 87 (by omega) (by omega)).trans C5
  have C6 := (F 88 (by omega) (by omega)).trans C6
  have C7 := (F 89 (by omega) (by omega)).trans C7
  have C8 := (F 90 (by omega) (by omega)).trans C8
  have C9 := (F 91 (by omega) (by omega)).trans C9
  have C10 := (F 92 (by omega) (by omega)).trans C10
  have C11 := (F 93 (by omega) (by omega)).trans C11
  have C12 := (F 94 (by omega) (by omega)).trans C12
  have C13 := (F 95 (by omega) (by omega)).trans C13
  have C14 := (F 96 (by omega) (by omega)).trans C14
  have C15 := (F 97 (by omega) (by omega)).trans C15
  have C16 := (F 98 (by omega) (by omega)).trans C16
  have C17 := (F 99 (by omega) (by omega)).trans C17
  have C18 := (F 100 (by omega) (by omega)).trans C18
  have C19 := (F 101 (by omega) (by omega)).trans C19
  clear F
  refine r_ra G (pn := 173) rfl rfl rfl ?_
  refine r_ic G (pn := 175) rfl rfl  ?_
  refine mk_i (pp := 177) (pn := 180) (n := 103) (f := 33) (k := 10) G rfl rfl rfl rfl rfl (Nat.le_of_ble_eq_true rfl) L A (Nat.le_of_ble_eq_true rfl) (Nat.le_of_ble_eq_true rfl) (Nat.le_of_ble_eq_true rfl) (fun h22 L F A C21 => ?_)
  have A : h22[81]? = some (.inr (11, [.int 0, .ref 82, .int 0, .int 0, .ref 83, .int 0, .ref 84, .ref 85, .ref 86, .ref 87, .int 0, .ref 88, .int 0, .ref 89, .ref 90, .int 0, .ref 91, .ref 92, .int 0, .int 0, .ref 93, .ref 94, .ref 95, .int 0, .int 0, .ref 96, .ref 97, .ref 98, .ref 99, .ref 100, .ref 101, .int 0, .ref 102, .ref 103, .int 0, .null])) := A
  have F9 : ∀ i, i < 81 → h22[i]? = h[i]? := fun i h1 => (F i (by omega) (by omega)).trans (F9 i h1)
  have C0 := (F 82 (by omega) (by omega)).trans C0
  have C1 := (F 83 (by omega) (by omega)).trans C1
  have C2 := (F 84 (by omega) (by omega)).trans C2
  have C3 := (F 85 (by omega) (by omega)).trans C3
  have C4 := (F 86 (by omega) (by omega)).trans C4
  have C5 := (F 87 (by omega) (by omega)).trans C5
  have C6 := (F 88 (by omega) (by omega)).trans C6
  have C7 := (F 89 (by omega) (by omega)).trans C7
  have C8 := (F 90 (by omega) (by omega)).trans C8
  have C9 := (F 91 (by omega) (by omega)).trans C9
  have C10 := (F 92 (by omega) (by omega)).trans C10
  have C11 := (F 93 (by omega) (by omega)).trans C11
  have C12 := (F 94 (by omega) (by omega)).trans C12
  have C13 := (F 95 (by omega) (by omega)).trans C13
  have C14 := (F 96 (by omega) (by omega)).trans C14
  have C15 := (F 97 (by omega) (by omega)).trans C15
  have C16 := (F 98 (by omega) (by omega)).trans C16
  have C17 := (F 99 (by omega) (by omega)).trans C17
  have C18 := (F 100 (by omega) (by omega)).trans C18
  have C19 := (F 101 (by omega) (by omega)).trans C19
  have C20 := (F 102 (by omega) (by omega)).trans C20
  clear F
  refine r_ra G (pn := 181) rfl rfl rfl ?_
  refine r_ic G (pn := 182) rfl rfl  ?_
  refine mk_i (pp := 184) (pn := 187) (n := 104) (f := 35) (k := 3) G rfl rfl rfl rfl rfl (Nat.le_of_ble_eq_true rfl) L A (Nat.le_of_ble_eq_true rfl) (Nat.le_of_ble_eq_true rfl) (Nat.le_of_ble_eq_true rfl) (fun h23 L F A C22 => ?_)
  have A : h23[81]? = some (.inr (11, [.int 0, .ref 82, .int 0, .int 0, .ref 83, .int 0, .ref 84, .ref 85, .ref 86, .ref 87, .int 0, .ref 88, .int 0, .ref 89, .ref 90, .int 0, .ref 91, .ref 92, .int 0, .int 0, .ref 93, .ref 94, .ref 95, .int 0, .int 0, .ref 96, .ref 97, .ref 98, .ref 99, .ref 100, .ref 101, .int 0, .ref 102, .ref 103, .int 0, .ref 104])) := A
  have F9 : ∀ i, i < 81 → h23[i]? = h[i]? := fun i h1 => (F i (by omega) (by omega)).trans (F9 i h1)
  have C0 := (F 82 (by omega) (by omega)).trans C0
  have C1 := (F 83 (by omega) (by omega)).trans C1
  have C2 := (F 84 (by omega) (by omega)).trans C2
  have C3 := (F 85 (by omega) (by omega)).trans C3
  have C4 := (F 86 (by omega) (by omega)).trans C4
  have C5 := (F 87 (by omega) (by omega)).trans C5
  have C6 := (F 88 (by omega) (by omega)).trans C6
  have C7 := (F 89 (by omega) (by omega)).trans C7
  have C8 := (F 90 (by omega) (by omega)).trans C8
  have C9 := (F 91 (by omega) (by omega)).trans C9
  have C10 := (F 92 (by omega) (by omega)).trans C10
  have C11 := (F 93 (by omega) (by omega)).trans C11
  have C12 := (F 94 (by omega) (by omega)).trans C12
  have C13 := (F 95 (by omega) (by omega)).trans C13
  have C14 := (F 96 (by omega) (by omega)).trans C14
  have C15 := (F 97 (by omega) (by omega)).trans C15
  have C16 := (F 98 (by omega) (by omega)).trans C16
  have C17 := (F 99 (by omega) (by omega)).trans C17
  have C18 := (F 100 (by omega) (by omega)).trans C18
  have C19 := (F 101 (by omega) (by omega)).trans C19
  have C20 := (F 102 (by omega) (by omega)).trans C20
  have C21 := (F 103 (by omega) (by omega)).trans C21
  clear F
  have fin : ∀ (v : Int32) (c z : Nat), v = nI (capN x) → am_Go (am_KA lx e) (am_fetch cd_26) Q 207 [some (.ref 81), some (.int x)] [.int v, .ref 81] h23 c z := by
    intro v c z hv
    refine r_puti G (pn := 210) rfl rfl A (Nat.le_of_ble_eq_true rfl) ?_
    have q9 : am_fr (fun i => i = 81) h23 (h23.set 81 (mO (fun i => if i = 0 then nI (capN x) else 0))) := am_fr.rf.put rfl
    subst hv
    exact r_vret G rfl (hq _ (fun i hi => (q9 i (by omega)).trans (F9 i hi)) (am_eq A) (q9.at (by omega) C0) (q9.at (by omega) C1) (q9.at (by omega) C2) (q9.at (by omega) C3) (q9.at (by omega) C4) (q9.at (by omega) C5) (q9.at (by omega) C6) (q9.at (by omega) C7) (q9.at (by omega) C8) (q9.at (by omega) C9) (q9.at (by omega) C10) (q9.at (by omega) C11) (q9.at (by omega) C12) (q9.at (by omega) C13) (q9.at (by omega) C14) (q9.at (by omega) C15) (q9.at (by omega) C16) (q9.at (by omega) C17) (q9.at (by omega) C18) (q9.at (by omega) C19) (q9.at (by omega) C20) (q9.at (by omega) C21) (q9.at (by omega) C22))
  obtain ⟨-, -, c1, c2, c3⟩ := capN_ok x
  refine r_ra G (pn := 188) rfl rfl rfl ?_
  refine r_il G (pn := 189) rfl rfl rfl ?_
  refine r_ic G (pn := 190) rfl rfl  ?_
  refine r_if2 G (pn := 193) rfl rfl (fun c190 => ?_) (fun c190 => ?_)
  · have n2 : ¬ x < 2 := Int32.not_lt.mpr c190
    refine r_il G (pn := 198) rfl rfl rfl ?_
    refine r_ic G (pn := 199) rfl rfl  ?_
    refine r_if2 G (pn := 202) rfl rfl (fun c199 => ?_) (fun c199 => ?_)
    · refine r_il G (pn := 207) rfl rfl rfl ?_
      exact fin _ _ _ (c3 n2 (Int32.not_lt.mpr c199)).symm
    · refine r_ic G (pn := 203) rfl rfl  ?_
      refine r_goto G rfl ?_
      exact fin _ _ _ (c2 n2 (Int32.not_le.mp c199)).symm
  · refine r_ic G (pn := 194) rfl rfl  ?_
    refine r_goto G rfl ?_
    exact fin _ _ _ (c1 (Int32.not_le.mp c190)).symm
end
