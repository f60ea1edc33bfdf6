theorem r_sldK {K : am_K} {cd : List (Nat × am_T)} {Q : am_Q} {pc pn : Nat} {ls : am_L} {st : List Value} {h : am_H} {c z : Nat} {L : Nat} {xs : Nat → Int32} {i : Nat} {k : Int32} (j : Nat) (G : am_GK K cd) (hf : am_fetch cd pc = am_sld L xs) (hp : pc + 1 = pn) (hk : k = nI j) (hi : i + j < L) (hL : L < 2 ^ 31) (kk : am_Go K (am_fetch cd) Q pn ls (.int (xs (i + j)) :: st) h c z) : am_Go K (am_fetch cd) Q pc ls (.int (nI i + k) :: .float 0 :: st) h c z := by
  subst hk
  rw [nI_add]
  refine r_sld G hf hp (vp_in_nI hi hL) ?_
  rw [nI_clamp (by omega)]
  exact kk
theorem law_lim {L i : Nat} (hL : L ≤ 3073) (hi : i ≤ 3080) : ((Int32.ofNat L - 6 : Int32) < nI i) ↔ L < i + 6 := by
  by_cases z : 6 ≤ L
  · rw [show (Int32.ofNat L - 6 : Int32) = nI (L - 6) from pk_sub (a := L) (b := 6) z, nI_ltI (by omega) (by omega)]
    omega
  · have : ∀ L, L < 6 → (Int32.ofNat L - 6 : Int32) < 0 := by decide +kernel
    refine ⟨fun _ => by omega, fun _ => ?_⟩
    have h1 := this L (by omega)
    have h2 : (0 : Int32) ≤ nI i := (nI_leI (a := 0) (by omega) (by omega)).mpr (Nat.zero_le _)
    exact Int32.lt_of_lt_of_le h1 h2
section
variable {L : Nat} {xs : Nat → Int32} {d : Nat}
set_option maxRecDepth 100000 in
theorem lc_key (hd : 11 ≤ d) {h : am_H} {Q : am_Q} {i c z : Nat} (G : am_GK (am_KA (L, xs) d) (cd_law (L, xs))) (hL : L ≤ 3073) (hi : i + 6 ≤ L) (hc : c ≤ 600000) (hz : z ≤ 7302250) (hW : Wrl h) (nxt : ∀ h', Wrl h' → am_Go (am_KA (L, xs) d) (am_fetch (cd_law (L, xs))) Q 479 [some (.float 0), some (.ref 0), some (.ref 81), some (.int (nI i))] [] h' c z) : am_Go (am_KA (L, xs) d) (am_fetch (cd_law (L, xs))) Q 108 [some (.float 0), some (.ref 0), some (.ref 81), some (.int (nI i))] [] h c z := by
  have h0 : ∃ cap rc, h[0]? = some (sO cap rc) := by
    obtain ⟨m, g, B, rc, nl, ln, L', f, f', hC, -⟩ := id hW
    exact ⟨_, _, hC.1⟩
  obtain ⟨cap, rc, h0⟩ := h0
  refine r_ra G (pn := 109) rfl rfl rfl ?_
  refine r_rf G (pn := 110) rfl rfl rfl ?_
  refine r_il G (pn := 111) rfl rfl rfl ?_
  refine r_ic G (pn := 112) rfl rfl  ?_
  refine r_ib G (pn := 113) rfl rfl  ?_
  refine r_sldK 1 G (pn := 114) rfl rfl rfl (by omega) (by omega) ?_
  refine r_i2c G (pn := 115) rfl rfl  ?_
  refine r_inv2 G (pn := 118) rfl rfl h0 (Nat.le_of_ble_eq_true rfl) (by omega) (by omega) (am_KA_m (L, xs) d _ _ _ _ _ (fun v h1 hv => ?_) (p_key (by omega) hW))
  obtain ⟨a, m, ev, k81, hk⟩ := hv
  subst ev
  show am_Go _ _ _ 118 [some (.float 0), some (.ref 0), some (.ref 81), some (.int (nI i))] [.int a] h1 _ _
  refine r_ra G (pn := 119) rfl rfl rfl ?_
  refine r_rf G (pn := 120) rfl rfl rfl ?_
  refine r_il G (pn := 121) rfl rfl rfl ?_
  refine r_ic G (pn := 122) rfl rfl  ?_
  refine r_ib G (pn := 123) rfl rfl  ?_
  refine r_sldK 1 G (pn := 124) rfl rfl rfl (by omega) (by omega) ?_
  refine r_i2c G (pn := 125) rfl rfl  ?_
  refine r_inv2 G (pn := 128) rfl rfl k81 (Nat.le_of_ble_eq_true rfl) (by omega) (by omega) (am_KA_m (L, xs) d _ _ _ _ _ (fun v h2 hv => ?_) hk)
  obtain ⟨ev, hW2⟩ := hv
  subst ev
  show am_Go _ _ _ 128 [some (.float 0), some (.ref 0), some (.ref 81), some (.int (nI i))] [.int a, .int a] h2 _ _
  refine r_if2 G (pn := 131) rfl rfl (fun c128 => ?_) (fun c128 => ?_)
  · exact nxt h2 hW2
  · exact absurd rfl c128
set_option maxRecDepth 100000 in
theorem lc_back (hd : 11 ≤ d) {h : am_H} {Q : am_Q} {i c z : Nat} (G : am_GK (am_KA (L, xs) d) (cd_law (L, xs))) (hL : L ≤ 3073) (hi : i + 6 ≤ L) (hc : c ≤ 600000) (hz : z ≤ 7302250) (hW : Wrl h) (nxt : ∀ h', Wrl h' → am_Go (am_KA (L, xs) d) (am_fetch (cd_law (L, xs))) Q 479 [some (.float 0), some (.ref 0), some (.ref 81), some (.int (nI i))] [] h' c z) : am_Go (am_KA (L, xs) d) (am_fetch (cd_law (L, xs))) Q 133 [some (.float 0), some (.ref 0), some (.ref 81), some (.int (nI i))] [] h c z := by
  have h0 : ∃ cap rc, h[0]? = some (sO cap rc) := by
    obtain ⟨m, g, B, rc, nl, ln, L', f, f', hC, -⟩ := id hW
    exact ⟨_, _, hC.1⟩
  obtain ⟨cap, rc, h0⟩ := h0
  refine r_ra G (pn := 134) rfl rfl rfl ?_
  refine r_inv1 G (pn := 137) rfl rfl h0 (Nat.le_of_ble_eq_true rfl) (by omega) (by omega) (am_KA_m (L, xs) d _ _ _ _ _ (fun v h1 hv => ?_) (p_back (by omega) hW))
  obtain ⟨a, m, ev, k81, hk⟩ := hv
  subst ev
  show am_Go _ _ _ 137 [some (.float 0), some (.ref 0), some (.ref 81), some (.int (nI i))] [.int a] h1 _ _
  refine r_ra G (pn := 138) rfl rfl rfl ?_
  refine r_inv1 G (pn := 141) rfl rfl k81 (Nat.le_of_ble_eq_true rfl) (by omega) (by omega) (am_KA_m (L, xs) d _ _ _ _ _ (fun v h2 hv => ?_) hk)
  obtain ⟨ev, hW2⟩ := hv
  subst ev
  show am_Go _ _ _ 141 [some (.float 0), some (.ref 0), some (.ref 81), some (.int (nI i))] [.int a, .int a] h2 _ _
  refine r_if2 G (pn := 144) rfl rfl (fun c141 => ?_) (fun c141 => ?_)
  · exact nxt h2 hW2
  · exact absurd rfl c141
set_option maxRecDepth 100000 in
theorem lc_enter (hd : 11 ≤ d) {h : am_H} {Q : am_Q} {i c z : Nat} (G : am_GK (am_KA (L, xs) d) (cd_law (L, xs))) (hL : L ≤ 3073) (hi : i + 6 ≤ L) (hc : c ≤ 600000) (hz : z ≤ 7302250) (hW : Wrl h) (nxt : ∀ h', Wrl h' → am_Go (am_KA (L, xs) d) (am_fetch (cd_law (L, xs))) Q 479 [some (.float 0), some (.ref 0), some (.ref 81), some (.int (nI i))] [] h' c z) : am_Go (am_KA (L, xs) d) (am_fetch (cd_law (L, xs))) Q 146 [some (.float 0), some (.ref 0), some (.ref 81), some (.int (nI i))] [] h c z := by
  have h0 : ∃ cap rc, h[0]? = some (sO cap rc) := by
    obtain ⟨m, g, B, rc, nl, ln, L', f, f', hC, -⟩ := id hW
    exact ⟨_, _, hC.1⟩
  obtain ⟨cap, rc, h0⟩ := h0
  refine r_ra G (pn := 147) rfl rfl rfl ?_
  refine r_inv1 G (pn := 150) rfl rfl h0 (Nat.le_of_ble_eq_true rfl) (by omega) (by omega) (am_KA_m (L, xs) d _ _ _ _ _ (fun v h1 hv => ?_) (p_enter (by omega) hW))
  obtain ⟨a, m, ev, k81, hk⟩ := hv
  subst ev
  show am_Go _ _ _ 150 [some (.float 0), some (.ref 0), some (.ref 81), some (.int (nI i))] [.int a] h1 _ _
  refine r_ra G (pn := 151) rfl rfl rfl ?_
  refine r_inv1 G (pn := 154) rfl rfl k81 (Nat.le_of_ble_eq_true rfl) (by omega) (by omega) (am_KA_m (L, xs) d _ _ _ _ _ (fun v h2 hv => ?_) hk)
  obtain ⟨ev, hW2⟩ := hv
  subst ev
  show am_Go _ _ _ 154 [some (.float 0), some (.ref 0), some (.ref 81), some (.int (nI i))] [.int a, .int a] h2 _ _
  refine r_if2 G (pn := 157) rfl rfl (fun c154 => ?_) (fun c154 => ?_)
  · exact nxt h2 hW2
  · exact absurd rfl c154
set_option maxRecDepth 100000 in
theorem lc_species (hd : 11 ≤ d) {h : am_H} {Q : am_Q} {i c z : Nat} (G : am_GK (am_KA (L, xs) d) (cd_law (L, xs))) (hL : L ≤ 3073) (hi : i + 6 ≤ L) (hc : c ≤ 600000) (hz : z ≤ 7302250) (hW : Wrl h) (nxt : ∀ h', Wrl h' → am_Go (am_KA (L, xs) d) (am_fetch (cd_law (L, xs))) Q 479 [some (.float 0), some (.ref 0), some (.ref 81), some (.int (nI i))] [] h' c z) : am_Go (am_KA (L, xs) d) (am_fetch (cd_law (L, xs))) Q 159 [some (.float 0), some (.ref 0), some (.ref 81), some (.int (nI i))] [] h c z := by
  have h0 : ∃ cap rc, h[0]? = some (sO cap rc) := by
    obtain ⟨m, g, B, rc, nl, ln, L', f, f', hC, -⟩ := id hW
    exact ⟨_, _, hC.1⟩
  obtain ⟨cap, rc, h0⟩ := h0
  refine r_ra G (pn := 160) rfl rfl rfl ?_
  refine r_inv1 G (pn := 163) rfl rfl h0 (Nat.le_of_ble_eq_true rfl) (by omega) (by omega) (am_KA_m (L, xs) d _ _ _ _ _ (fun v h1 hv => ?_) (p_species (by omega) hW))
  obtain ⟨a, m, ev, k81, hk⟩ := hv
  subst ev
  show am_Go _ _ _ 163 [some (.float 0), some (.ref 0), some (.ref 81), some (.int (nI i))] [.int a] h1 _ _
  refine r_ra G (pn := 164) rfl rfl rfl ?_
  refine r_inv1 G (pn := 167) rfl rfl k81 (Nat.le_of_ble_eq_true rfl) (by omega) (by omega) (am_KA_m (L, xs) d _ _ _ _ _ (fun v h2 hv => ?_) hk)
  obtain ⟨ev, hW2⟩ := hv
  subst ev
  show am_Go _ _ _ 167 [some (.float 0), some (.ref 0), some (.ref 81), some (.int (nI i))] [.int a, .int a] h2 _ _
  refine r_if2 G (pn := 170) rfl rfl (fun c167 => ?_) (fun c167 => ?_)
  · exact nxt h2 hW2
  · exact absurd rfl c167
set_option maxRecDepth 100000 in
theorem lc_size (hd : 11 ≤ d) {h : am_H} {Q : am_Q} {i c z : Nat} (G : am_GK (am_KA (L, xs) d) (cd_law (L, xs))) (hL : L ≤ 3073) (hi : i + 6 ≤ L) (hc : c ≤ 600000) (hz : z ≤ 7302250) (hW : Wrl h) (nxt : ∀ h', Wrl h' → am_Go (am_KA (L, xs) d) (am_fetch (cd_law (L, xs))) Q 479 [some (.float 0), some (.ref 0), some (.ref 81), some (.int (nI i))] [] h' c z) : am_Go (am_KA (L, xs) d) (am_fetch (cd_law (L, xs))) Q 172 [some (.float 0), some (.ref 0), some (.ref 81), some (.int (nI i))] [] h c z := by
  have h0 : ∃ cap rc, h[0]? = some (sO cap rc) := by
    obtain ⟨m, g, B, rc, nl, ln, L', f, f', hC, -⟩ := id hW
    exact ⟨_, _, hC.1⟩
  obtain ⟨cap, rc, h0⟩ := h0
  refine r_ra G (pn := 173) rfl rfl rfl ?_
  refine r_rf G (pn := 174) rfl rfl rfl ?_
  refine r_il G (pn := 175) rfl rfl rfl ?_
  refine r_ic G (pn := 176) rfl rfl  ?_
  refine r_ib G (pn := 177) rfl rfl  ?_
  refine r_sldK 1 G (pn := 178) rfl rfl rfl (by omega) (by omega) ?_
  refine r_inv2 G (pn := 181) rfl rfl h0 (Nat.le_of_ble_eq_true rfl) (by omega) (by omega) (am_KA_m (L, xs) d _ _ _ _ _ (fun v h1 hv => ?_) (p_size (by omega) hW))
  obtain ⟨a, m, ev, k81, hk⟩ := hv
  subst ev
  show am_Go _ _ _ 181 [some (.float 0), some (.ref 0), some (.ref 81), some (.int (nI i))] [.int a] h1 _ _
  refine r_ra G (pn := 182) rfl rfl rfl ?_
  refine r_rf G (pn := 183) rfl rfl rfl ?_
  refine r_il G (pn := 184) rfl rfl rfl ?_
  refine r_ic G (pn := 185) rfl rfl  ?_
  refine r_ib G (pn := 186) rfl rfl  ?_
  refine r_sldK 1 G (pn := 187) rfl rfl rfl (by omega) (by omega) ?_
  refine r_inv2 G (pn := 190) rfl rfl k81 (Nat.le_of_ble_eq_true rfl) (by omega) (by omega) (am_KA_m (L, xs) d _ _ _ _ _ (fun v h2 hv => ?_) hk)
  obtain ⟨ev, hW2⟩ := hv
  subst ev
  show am_Go _ _ _ 190 [some (.float 0), some (.ref 0), some (.ref 81), some (.int (nI i))] [.int a, .int a] h2 _ _
  refine r_if2 G (pn := 193) rfl rfl (fun c190 => ?_) (fun c190 => ?_)
  · exact nxt h2 hW2
  · exact absurd rfl c190
set_option maxRecDepth 100000 in
theorem lc_atom (hd : 11 ≤ d) {h : am_H} {Q : am_Q} {i c z : Nat} (G : am_GK (am_KA (L, xs) d) (cd_law (L, xs))) (hL : L ≤ 3073) (hi : i + 6 ≤ L) (hc : c ≤ 600000) (hz : z ≤ 7302250) (hW : Wrl h) (nxt : ∀ h', Wrl h' → am_Go (am_KA (L, xs) d) (am_fetch (cd_law (L, xs))) Q 479 [some (.float 0), some (.ref 0), some (.ref 81), some (.int (nI i))] [] h' c z) : am_Go (am_KA (L, xs) d) (am_fetch (cd_law (L, xs))) Q 195 [some (.float 0), some (.ref 0), some (.ref 81), some (.int (nI i))] [] h c z := by
  have h0 : ∃ cap rc, h[0]? = some (sO cap rc) := by
    obtain ⟨m, g, B, rc, nl, ln, L', f, f', hC, -⟩ := id hW
    exact ⟨_, _, hC.1⟩
  obtain ⟨cap, rc, h0⟩ := h0
  refine r_ra G (pn := 196) rfl rfl rfl ?_
  refine r_rf G (pn := 197) rfl rfl rfl ?_
  refine r_il G (pn := 198) rfl rfl rfl ?_
  refine r_ic G (pn := 199) rfl rfl  ?_
  refine r_ib G (pn := 200) rfl rfl  ?_
  refine r_sldK 1 G (pn := 201) rfl rfl rfl (by omega) (by omega) ?_
  refine r_rf G (pn := 202) rfl rfl rfl ?_
  refine r_il G (pn := 203) rfl rfl rfl ?_
  refine r_ic G (pn := 204) rfl rfl  ?_
  refine r_ib G (pn := 205) rfl rfl  ?_
  refine r_sldK 2 G (pn := 206) rfl rfl rfl (by omega) (by omega) ?_
  refine r_inv3 G (pn := 209) rfl rfl h0 (Nat.le_of_ble_eq_true rfl) (by omega) (by omega) (am_KA_m (L, xs) d _ _ _ _ _ (fun v h1 hv => ?_) (p_atom (by omega) hW))
  obtain ⟨a, m, ev, k81, hk⟩ := hv
  subst ev
  show am_Go _ _ _ 209 [some (.float 0), some (.ref 0), some (.ref 81), some (.int (nI i))] [.int a] h1 _ _
  refine r_ra G (pn := 210) rfl rfl rfl ?_
  refine r_rf G (pn := 211) rfl rfl rfl ?_
  refine r_il G (pn := 212) rfl rfl rfl ?_
  refine r_ic G (pn := 213) rfl rfl  ?_
  refine r_ib G (pn := 214) rfl rfl  ?_
  refine r_sldK 1 G (pn := 215) rfl rfl rfl (by omega) (by omega) ?_
  refine r_rf G (pn := 216) rfl rfl rfl ?_
  refine r_il G (pn := 217) rfl rfl rfl ?_
  refine r_ic G (pn := 218) rfl rfl  ?_
  refine r_ib G (pn := 219) rfl rfl  ?_
  refine r_sldK 2 G (pn := 220) rfl rfl rfl (by omega) (by omega) ?_
  refine r_inv3 G (pn := 223) rfl rfl k81 (Nat.le_of_ble_eq_true rfl) (by omega) (by omega) (am_KA_m (L, xs) d _ _ _ _ _ (fun v h2 hv => ?_) hk)
  obtain ⟨ev, hW2⟩ := hv
  subst ev
  show am_Go _ _ _ 223 [some (.float 0), some (.ref 0), some (.ref 81), some (.int (nI i))] [.int a, .int a] h2 _ _
  refine r_if2 G (pn := 226) rfl rfl (fun c223 => ?_) (fun c223 => ?_)
  · exact nxt h2 hW2
  · exact absurd rfl c223
set_option maxRecDepth 100000 in
theorem lc_bond (hd : 11 ≤ d) {h : am_H} {Q : am_Q} {i c z : Nat} (G : am_GK (am_KA (L, xs) d) (cd_law (L, xs))) (hL : L ≤ 3073) (hi : i + 6 ≤ L) (hc : c ≤ 600000) (hz : z ≤ 7302250) (hW : Wrl h) (nxt : ∀ h', Wrl h' → am_Go (am_KA (L, xs) d) (am_fetch (cd_law (L, xs))) Q 479 [some (.float 0), some (.ref 0), some (.ref 81), some (.int (nI i))] [] h' c z) : am_Go (am_KA (L, xs) d) (am_fetch (cd_law (L, xs))) Q 228 [some (.float 0), some (.ref 0), some (.ref 81), some (.int (nI i))] [] h c z := by
  have h0 : ∃ cap rc, h[0]? = some (sO cap rc) := by
    obtain ⟨m, g, B, rc, nl, ln, L', f, f', hC, -⟩ := id hW
    exact ⟨_, _, hC.1⟩
  obtain ⟨cap, rc, h0⟩ := h0
  refine r_ra G (pn := 229) rfl rfl rfl ?_
  refine r_rf G (pn := 230) rfl rfl rfl ?_
  refine r_il G (pn := 231) rfl rfl rfl ?_
  refine r_ic G (pn := 232) rfl rfl  ?_
  refine r_ib G (pn := 233) rfl rfl  ?_
  refine r_sldK 1 G (pn := 234) rfl rfl rfl (by omega) (by omega) ?_
  refine r_rf G (pn := 235) rfl rfl rfl ?_
  refine r_il G (pn := 236) rfl rfl rfl ?_
  refine r_ic G (pn := 237) rfl rfl  ?_
  refine r_ib G (pn := 238) rfl rfl  ?_
  refine r_sldK 2 G (pn := 239) rfl rfl rfl (by omega) (by omega) ?_
  refine r_rf G (pn := 240) rfl rfl rfl ?_
  refine r_il G (pn := 241) rfl rfl rfl ?_
  refine r_ic G (pn := 242) rfl rfl  ?_
  refine r_ib G (pn := 243) rfl rfl  ?_
  refine r_sldK 3 G (pn := 244) rfl rfl rfl (by omega) (by omega) ?_
  refine r_inv4 G (pn := 247) rfl rfl h0 (Nat.le_of_ble_eq_true rfl) (by omega) (by omega) (am_KA_m (L, xs) d _ _ _ _ _ (fun v h1 hv => ?_) (p_bond (by omega) hW))
  obtain ⟨a, m, ev, k81, hk⟩ := hv
  subst ev
  show am_Go _ _ _ 247 [some (.float 0), some (.ref 0), some (.ref 81), some (.int (nI i))] [.int a] h1 _ _
  refine r_ra G (pn := 248) rfl rfl rfl ?_
  refine r_rf G (pn := 249) rfl rfl rfl ?_
  refine r_il G (pn := 250) rfl rfl rfl ?_
  refine r_ic G (pn := 251) rfl rfl  ?_
  refine r_ib G (pn := 252) rfl rfl  ?_
  refine r_sldK 1 G (pn := 253) rfl rfl rfl (by omega) (by omega) ?_
  refine r_rf G (pn := 254) rfl rfl rfl ?_
  refine r_il G (pn := 255) rfl rfl rfl ?_
  refine r_ic G (pn := 256) rfl rfl  ?_
  refine r_ib G (pn := 257) rfl rfl  ?_
  refine r_sldK 2 G (pn := 258) rfl rfl rfl (by omega) (by omega) ?_
  refine r_rf G (pn := 259) rfl rfl rfl ?_
  refine r_il G (pn := 260) rfl rfl rfl ?_
  refine r_ic G (pn := 261) rfl rfl  ?_
  refine r_ib G (pn := 262) rfl rfl  ?_
  refine r_sldK 3 G (pn := 263) rfl rfl rfl (by omega) (by omega) ?_
  refine r_inv4 G (pn := 266) rfl rfl k81 (Nat.le_of_ble_eq_true rfl) (by omega) (by omega) (am_KA_m (L, xs) d _ _ _ _ _ (fun v h2 hv => ?_) hk)
  obtain ⟨ev, hW2⟩ := hv
  subst ev
  show am_Go _ _ _ 266 [some (.float 0), some (.ref 0), some (.ref 81), some (.int (nI i))] [.int a, .int a] h2 _ _
  refine r_if2 G (pn := 269) rfl rfl (fun c266 => ?_) (fun c266 => ?_)
  · exact nxt h2 hW2
  · exact absurd rfl c266
set_option maxRecDepth 100000 in
theorem lc_rule (hd : 11 ≤ d) {h : am_H} {Q : am_Q} {i c z : Nat} (G : am_GK (am_KA (L, xs) d) (cd_law (L, xs))) (hL : L ≤ 3073) (hi : i + 6 ≤ L) (hc : c ≤ 600000) (hz : z ≤ 7302250) (hW : Wrl h) (nxt : ∀ h', Wrl h' → am_Go (am_KA (L, xs) d) (am_fetch (cd_law (L, xs))) Q 479 [some (.float 0), some (.ref 0), some (.ref 81), some (.int (nI i))] [] h' c z) : am_Go (am_KA (L, xs) d) (am_fetch (cd_law (L, xs))) Q 271 [some (.float 0), some (.ref 0), some (.ref 81), some (.int (nI i))] [] h c z := by
  have h0 : ∃ cap rc, h[0]? = some (sO cap rc) := by
    obtain ⟨m, g, B, rc, nl, ln, L', f, f', hC, -⟩ := id hW
    exact ⟨_, _, hC.1⟩
  obtain ⟨cap, rc, h0⟩ := h0
  refine r_ra G (pn := 272) rfl rfl rfl ?_
  refine r_rf G (pn := 273) rfl rfl rfl ?_
  refine r_il G (pn := 274) rfl rfl rfl ?_
  refine r_ic G (pn := 275) rfl rfl  ?_
  refine r_ib G (pn := 276) rfl rfl  ?_
  refine r_sldK 1 G (pn := 277) rfl rfl rfl (by omega) (by omega) ?_
  refine r_rf G (pn := 278) rfl rfl rfl ?_
  refine r_il G (pn := 279) rfl rfl rfl ?_
  refine r_ic G (pn := 280) rfl rfl  ?_
  refine r_ib G (pn := 281) rfl rfl  ?_
  refine r_sldK 2 G (pn := 282) rfl rfl rfl (by omega) (by omega) ?_
  refine r_rf G (pn := 283) rfl rfl rfl ?_
  refine r_il G (pn := 284) rfl rfl rfl ?_
  refine r_ic G (pn := 285) rfl rfl  ?_
  refine r_ib G (pn := 286) rfl rfl  ?_
  refine r_sldK 3 G (pn := 287) rfl rfl rfl (by omega) (by omega) ?_
  refine r_inv4 G (pn := 290) rfl rfl h0 (Nat.le_of_ble_eq_true rfl) (by omega) (by omega) (am_KA_m (L, xs) d _ _ _ _ _ (fun v h1 hv => ?_) (p_rule (by omega) hW))
  obtain ⟨a, m, ev, k81, hk⟩ := hv
  subst ev
  show am_Go _ _ _ 290 [some (.float 0), some (.ref 0), some (.ref 81), some (.int (nI i))] [.int a] h1 _ _
  refine r_ra G (pn := 291) rfl rfl rfl ?_
  refine r_rf G (pn := 292) rfl rfl rfl ?_
  refine r_il G (pn := 293) rfl rfl rfl ?_
  refine r_ic G (pn := 294) rfl rfl  ?_
  refine r_ib G (pn := 295) rfl rfl  ?_
  refine r_sldK 1 G (pn := 296) rfl rfl rfl (by omega) (by omega) ?_
  refine r_rf G (pn := 297) rfl rfl rfl ?_
  refine r_il G (pn := 298) rfl rfl rfl ?_
  refine r_ic G (pn := 299) rfl rfl  ?_
  refine r_ib G (pn := 300) rfl rfl  ?_
  refine r_sldK 2 G (pn := 301) rfl rfl rfl (by omega) (by omega) ?_
  refine r_rf G (pn := 302) rfl rfl rfl ?_
  refine r_il G (pn := 303) rfl rfl rfl ?_
  refine r_ic G (pn := 304) rfl rfl  ?_
  refine r_ib G (pn := 305) rfl rfl  ?_
  refine r_sldK 3 G (pn := 306) rfl rfl rfl (by omega) (by omega) ?_
  refine r_inv4 G (pn := 309) rfl rfl k81 (Nat.le_of_ble_eq_true rfl) (by omega) (by omega) (am_KA_m (L, xs) d _ _ _ _ _ (fun v h2 hv => ?_) hk)
  obtain ⟨ev, hW2⟩ := hv
  subst ev
  show am_Go _ _ _ 309 [some (.float 0), some (.ref 0), some (.ref 81), some (.int (nI i))] [.int a, .int a] h2 _ _
  refine r_if2 G (pn := 312) rfl rfl (fun c309 => ?_) (fun c309 => ?_)
  · exact nxt h2 hW2
  · exact absurd rfl c309
set_option maxRecDepth 100000 in
theorem lc_change (hd : 11 ≤ d) {h : am_H} {Q : am_Q} {i c z : Nat} (G : am_GK (am_KA (L, xs) d) (cd_law (L, xs))) (hL : L ≤ 3073) (hi : i + 6 ≤ L) (hc : c ≤ 600000) (hz : z ≤ 7302250) (hW : Wrl h) (nxt : ∀ h', Wrl h' → am_Go (am_KA (L, xs) d) (am_fetch (cd_law (L, xs))) Q 479 [some (.float 0), some (.ref 0), some (.ref 81), some (.int (nI i))] [] h' c z) : am_Go (am_KA (L, xs) d) (am_fetch (cd_law (L, xs))) Q 314 [some (.float 0), some (.ref 0), some (.ref 81), some (.int (nI i))] [] h c z := by
  have h0 : ∃ cap rc, h[0]? = some (sO cap rc) := by
    obtain ⟨m, g, B, rc, nl, ln, L', f, f', hC, -⟩ := id hW
    exact ⟨_, _, hC.1⟩
  obtain ⟨cap, rc, h0⟩ := h0
  refine r_ra G (pn := 315) rfl rfl rfl ?_
  refine r_rf G (pn := 316) rfl rfl rfl ?_
  refine r_il G (pn := 317) rfl rfl rfl ?_
  refine r_ic G (pn := 318) rfl rfl  ?_
  refine r_ib G (pn := 319) rfl rfl  ?_
  refine r_sldK 1 G (pn := 320) rfl rfl rfl (by omega) (by omega) ?_
  refine r_rf G (pn := 321) rfl rfl rfl ?_
  refine r_il G (pn := 322) rfl rfl rfl ?_
  refine r_ic G (pn := 323) rfl rfl  ?_
  refine r_ib G (pn := 324) rfl rfl  ?_
  refine r_sldK 2 G (pn := 325) rfl rfl rfl (by omega) (by omega) ?_
  refine r_rf G (pn := 326) rfl rfl rfl ?_
  refine r_il G (pn := 327) rfl rfl rfl ?_
  refine r_ic G (pn := 328) rfl rfl  ?_
  refine r_ib G (pn := 329) rfl rfl  ?_
  refine r_sldK 3 G (pn := 330) rfl rfl rfl (by omega) (by omega) ?_
  refine r_rf G (pn := 331) rfl rfl rfl ?_
  refine r_il G (pn := 332) rfl rfl rfl ?_
  refine r_ic G (pn := 333) rfl rfl  ?_
  refine r_ib G (pn := 334) rfl rfl  ?_
  refine r_sldK 4 G (pn := 335) rfl rfl rfl (by omega) (by omega) ?_
  refine r_rf G (pn := 336) rfl rfl rfl ?_
  refine r_il G (pn := 337) rfl rfl rfl ?_
  refine r_ic G (pn := 338) rfl rfl  ?_
  refine r_ib G (pn := 339) rfl rfl  ?_
  refine r_sldK 5 G (pn := 340) rfl rfl rfl (by omega) (by omega) ?_
  refine r_inv6 G (pn := 343) rfl rfl h0 (Nat.le_of_ble_eq_true rfl) (by omega) (by omega) (am_KA_m (L, xs) d _ _ _ _ _ (fun v h1 hv => ?_) (p_change (by omega) hW))
  obtain ⟨a, m, ev, k81, hk⟩ := hv
  subst ev
  show am_Go _ _ _ 343 [some (.float 0), some (.ref 0), some (.ref 81), some (.int (nI i))] [.int a] h1 _ _
  refine r_ra G (pn := 344) rfl rfl rfl ?_
  refine r_rf G (pn := 345) rfl rfl rfl ?_
  refine r_il G (pn := 346) rfl rfl rfl ?_
  refine r_ic G (pn := 347) rfl rfl  ?_
  refine r_ib G (pn := 348) rfl rfl  ?_
  refine r_sldK 1 G (pn := 349) rfl rfl rfl (by omega) (by omega) ?_
  refine r_rf G (pn := 350) rfl rfl rfl ?_
  refine r_il G (pn := 351) rfl rfl rfl ?_
  refine r_ic G (pn := 352) rfl rfl  ?_
  refine r_ib G (pn := 353) rfl rfl  ?_
  refine r_sldK 2 G (pn := 354) rfl rfl rfl (by omega) (by omega) ?_
  refine r_rf G (pn := 355) rfl rfl rfl ?_
  refine r_il G (pn := 356) rfl rfl rfl ?_
  refine r_ic G (pn := 357) rfl rfl  ?_
  refine r_ib G (pn := 358) rfl rfl  ?_
  refine r_sldK 3 G (pn := 359) rfl rfl rfl (by omega) (by omega) ?_
  refine r_rf G (pn := 360) rfl rfl rfl ?_
  refine r_il G (pn := 361) rfl rfl rfl ?_
  refine r_ic G (pn := 362) rfl rfl  ?_
  refine r_ib G (pn := 363) rfl rfl  ?_
  refine r_sldK 4 G (pn := 364) rfl rfl rfl (by omega) (by omega) ?_
  refine r_rf G (pn := 365) rfl rfl rfl ?_
  refine r_il G (pn := 366) rfl rfl rfl ?_
  refine r_ic G (pn := 367) rfl rfl  ?_
  refine r_ib G (pn := 368) rfl rfl  ?_
  refine r_sldK 5 G (pn := 369) rfl rfl rfl (by omega) (by omega) ?_
  refine r_inv6 G (pn := 372) rfl rfl k81 (Nat.le_of_ble_eq_true rfl) (by omega) (by omega) (am_KA_m (L, xs) d _ _ _ _ _ (fun v h2 hv => ?_) hk)
  obtain ⟨ev, hW2⟩ := hv
  subst ev
  show am_Go _ _ _ 372 [some (.float 0), some (.ref 0), some (.ref 81), some (.int (nI i))] [.int a, .int a] h2 _ _
  refine r_if2 G (pn := 375) rfl rfl (fun c372 => ?_) (fun c372 => ?_)
  · exact nxt h2 hW2
  · exact absurd rfl c372
set_option maxRecDepth 100000 in
theorem lc_matches (hd : 11 ≤ d) {h : am_H} {Q : am_Q} {i c z : Nat} (G : am_GK (am_KA (L, xs) d) (cd_law (L, xs))) (hL : L ≤ 3073) (hi : i + 6 ≤ L) (hc : c ≤ 600000) (hz : z ≤ 7302250) (hW : Wrl h) (nxt : ∀ h', Wrl h' → am_Go (am_KA (L, xs) d) (am_fetch (cd_law (L, xs))) Q 479 [some (.float 0), some (.ref 0), some (.ref 81), some (.int (nI i))] [] h' c z) : am_Go (am_KA (L, xs) d) (am_fetch (cd_law (L, xs))) Q 377 [some (.float 0), some (.ref 0), some (.ref 81), some (.int (nI i))] [] h c z := by
  have h0 : ∃ cap rc, h[0]? = some (sO cap rc) := by
    obtain ⟨m, g, B, rc, nl, ln, L', f, f', hC, -⟩ := id hW
    exact ⟨_, _, hC.1⟩
  obtain ⟨cap, rc, h0⟩ := h0
  refine r_ra G (pn := 378) rfl rfl rfl ?_
  refine r_rf G (pn := 379) rfl rfl rfl ?_
  refine r_il G (pn := 380) rfl rfl rfl ?_
  refine r_ic G (pn := 381) rfl rfl  ?_
  refine r_ib G (pn := 382) rfl rfl  ?_
  refine r_sldK 1 G (pn := 383) rfl rfl rfl (by omega) (by omega) ?_
  refine r_rf G (pn := 384) rfl rfl rfl ?_
  refine r_il G (pn := 385) rfl rfl rfl ?_
  refine r_ic G (pn := 386) rfl rfl  ?_
  refine r_ib G (pn := 387) rfl rfl  ?_
  refine r_sldK 2 G (pn := 388) rfl rfl rfl (by omega) (by omega) ?_
  refine r_rf G (pn := 389) rfl rfl rfl ?_
  refine r_il G (pn := 390) rfl rfl rfl ?_
  refine r_ic G (pn := 391) rfl rfl  ?_
  refine r_ib G (pn := 392) rfl rfl  ?_
  refine r_sldK 3 G (pn := 393) rfl rfl rfl (by omega) (by omega) ?_
  refine r_inv4 G (pn := 396) rfl rfl h0 (Nat.le_of_ble_eq_true rfl) (by omega) (by omega) (am_KA_m (L, xs) d _ _ _ _ _ (fun v h1 hv => ?_) (p_matches (by omega) hW))
  obtain ⟨a, m, ev, k81, hk⟩ := hv
  subst ev
  show am_Go _ _ _ 396 [some (.float 0), some (.ref 0), some (.ref 81), some (.int (nI i))] [.int a] h1 _ _
  refine r_ra G (pn := 397) rfl rfl rfl ?_
  refine r_rf G (pn := 398) rfl rfl rfl ?_
  refine r_il G (pn := 399) rfl rfl rfl ?_
  refine r_ic G (pn := 400) rfl rfl  ?_
  refine r_ib G (pn := 401) rfl rfl  ?_
  refine r_sldK 1 G (pn := 402) rfl rfl rfl (by omega) (by omega) ?_
  refine r_rf G (pn := 403) rfl rfl rfl ?_
  refine r_il G (pn := 404) rfl rfl rfl ?_
  refine r_ic G (pn := 405) rfl rfl  ?_
  refine r_ib G (pn := 406) rfl rfl  ?_
  refine r_sldK 2 G (pn := 407) rfl rfl rfl (by omega) (by omega) ?_
  refine r_rf G (pn := 408) rfl rfl rfl ?_
  refine r_il G (pn := 409) rfl rfl rfl ?_
  refine r_ic G (pn := 410) rfl rfl  ?_
  refine r_ib G (pn := 411) rfl rfl  ?_
  refine r_sldK 3 G (pn := 412) rfl rfl rfl (by omega) (by omega) ?_
  refine r_inv4 G (pn := 415) rfl rfl k81 (Nat.le_of_ble_eq_true rfl) (by omega) (by omega) (am_KA_m (L, xs) d _ _ _ _ _ (fun v h2 hv => ?_) hk)
  obtain ⟨ev, hW2⟩ := hv
  subst ev
  show am_Go _ _ _ 415 [some (.float 0), some (.ref 0), some (.ref 81), some (.int (nI i))] [.int a, .int a] h2 _ _
  refine r_if2 G (pn := 418) rfl rfl (fun c415 => ?_) (fun c415 => ?_)
  · exact nxt h2 hW2
  · exact absurd rfl c415
set_option maxRecDepth 100000 in
theorem lc_round (hd : 11 ≤ d) {h : am_H} {Q : am_Q} {i c z : Nat} (G : am_GK (am_KA (L, xs) d) (cd_law (L, xs))) (hL : L ≤ 3073) (hi : i + 6 ≤ L) (hc : c ≤ 600000) (hz : z ≤ 7302250) (hW : Wrl h) (nxt : ∀ h', Wrl h' → am_Go (am_KA (L, xs) d) (am_fetch (cd_law (L, xs))) Q 479 [some (.float 0), some (.ref 0), some (.ref 81), some (.int (nI i))] [] h' c z) : am_Go (am_KA (L, xs) d) (am_fetch (cd_law (L, xs))) Q 420 [some (.float 0), some (.ref 0), some (.ref 81), some (.int (nI i))] [] h c z := by
  have h0 : ∃ cap rc, h[0]? = some (sO cap rc) := by
    obtain ⟨m, g, B, rc, nl, ln, L', f, f', hC, -⟩ := id hW
    exact ⟨_, _, hC.1⟩
  obtain ⟨cap, rc, h0⟩ := h0
  refine r_ra G (pn := 421) rfl rfl rfl ?_
  refine r_inv1 G (pn := 424) rfl rfl h0 (Nat.le_of_ble_eq_true rfl) (by omega) (by omega) (am_KA_m (L, xs) d _ _ _ _ _ (fun v h1 hv => ?_) (p_round (by omega) hW))
  obtain ⟨a, m, ev, k81, hk⟩ := hv
  subst ev
  show am_Go _ _ _ 424 [some (.float 0), some (.ref 0), some (.ref 81), some (.int (nI i))] [.int a] h1 _ _
  refine r_ra G (pn := 425) rfl rfl rfl ?_
  refine r_inv1 G (pn := 428) rfl rfl k81 (Nat.le_of_ble_eq_true rfl) (by omega) (by omega) (am_KA_m (L, xs) d _ _ _ _ _ (fun v h2 hv => ?_) hk)
  obtain ⟨ev, hW2⟩ := hv
  subst ev
  show am_Go _ _ _ 428 [some (.float 0), some (.ref 0), some (.ref 81), some (.int (nI i))] [.int a, .int a] h2 _ _
  refine r_if2 G (pn := 431) rfl rfl (fun c428 => ?_) (fun c428 => ?_)
  · exact nxt h2 hW2
  · exact absurd rfl c428
set_option maxRecDepth 100000 in
theorem lc_reactions (hd : 11 ≤ d) {h : am_H} {Q : am_Q} {i c z : Nat} (G : am_GK (am_KA (L, xs) d) (cd_law (L, xs))) (hL : L ≤ 3073) (hi : i + 6 ≤ L) (hc : c ≤ 600000) (hz : z ≤ 7302250) (hW : Wrl h) (nxt : ∀ h', Wrl h' → am_Go (am_KA (L, xs) d) (am_fetch (cd_law (L, xs))) Q 479 [some (.float 0), some (.ref 0), some (.ref 81), some (.int (nI i))] [] h' c z) : am_Go (am_KA (L, xs) d) (am_fetch (cd_law (L, xs))) Q 433 [some (.float 0), some (.ref 0), some (.ref 81), some (.int (nI i))] [] h c z := by
  have h0 : ∃ cap rc, h[0]? = some (sO cap rc) := by
    obtain ⟨m, g, B, rc, nl, ln, L', f, f', hC, -⟩ := id hW
    exact ⟨_, _, hC.1⟩
  obtain ⟨cap, rc, h0⟩ := h0
  refine r_ra G (pn := 434) rfl rfl rfl ?_
  refine r_inv1 G (pn := 437) rfl rfl h0 (Nat.le_of_ble_eq_true rfl) (by omega) (by omega) (am_KA_m (L, xs) d _ _ _ _ _ (fun v h1 hv => ?_) (p_reactions (by omega) hW))
  obtain ⟨a, m, ev, k81, hk⟩ := hv
  subst ev
  show am_Go _ _ _ 437 [some (.float 0), some (.ref 0), some (.ref 81), some (.int (nI i))] [.int a] h1 _ _
  refine r_ra G (pn := 438) rfl rfl rfl ?_
  refine r_inv1 G (pn := 441) rfl rfl k81 (Nat.le_of_ble_eq_true rfl) (by omega) (by omega) (am_KA_m (L, xs) d _ _ _ _ _ (fun v h2 hv => ?_) hk)
  obtain ⟨ev, hW2⟩ := hv
  subst ev
  show am_Go _ _ _ 441 [some (.float 0), some (.ref 0), some (.ref 81), some (.int (nI i))] [.int a, .int a] h2 _ _
  refine r_if2 G (pn := 444) rfl rfl (fun c441 => ?_) (fun c441 => ?_)
  · exact nxt h2 hW2
  · exact absurd rfl c441
set_option maxRecDepth 100000 in
theorem lc_reaction (hd : 11 ≤ d) {h : am_H} {Q : am_Q} {i c z : Nat} (G : am_GK (am_KA (L, xs) d) (cd_law (L, xs))) (hL : L ≤ 3073) (hi : i + 6 ≤ L) (hc : c ≤ 600000) (hz : z ≤ 7302250) (hW : Wrl h) (nxt : ∀ h', Wrl h' → am_Go (am_KA (L, xs) d) (am_fetch (cd_law (L, xs))) Q 479 [some (.float 0), some (.ref 0), some (.ref 81), some (.int (nI i))] [] h' c z) : am_Go (am_KA (L, xs) d) (am_fetch (cd_law (L, xs))) Q 446 [some (.float 0), some (.ref 0), some (.ref 81), some (.int (nI i))] [] h c z := by
  have h0 : ∃ cap rc, h[0]? = some (sO cap rc) := by
    obtain ⟨m, g, B, rc, nl, ln, L', f, f', hC, -⟩ := id hW
    exact ⟨_, _, hC.1⟩
  obtain ⟨cap, rc, h0⟩ := h0
  refine r_ra G (pn := 447) rfl rfl rfl ?_
  refine r_rf G (pn := 448) rfl rfl rfl ?_
  refine r_il G (pn := 449) rfl rfl rfl ?_
  refine r_ic G (pn := 450) rfl rfl  ?_
  refine r_ib G (pn := 451) rfl rfl  ?_
  refine r_sldK 1 G (pn := 452) rfl rfl rfl (by omega) (by omega) ?_
  refine r_rf G (pn := 453) rfl rfl rfl ?_
  refine r_il G (pn := 454) rfl rfl rfl ?_
  refine r_ic G (pn := 455) rfl rfl  ?_
  refine r_ib G (pn := 456) rfl rfl  ?_
  refine r_sldK 2 G (pn := 457) rfl rfl rfl (by omega) (by omega) ?_
  refine r_inv3 G (pn := 460) rfl rfl h0 (Nat.le_of_ble_eq_true rfl) (by omega) (by omega) (am_KA_m (L, xs) d _ _ _ _ _ (fun v h1 hv => ?_) (p_reaction (by omega) hW))
  obtain ⟨a, m, ev, k81, hk⟩ := hv
  subst ev
  show am_Go _ _ _ 460 [some (.float 0), some (.ref 0), some (.ref 81), some (.int (nI i))] [.int a] h1 _ _
  refine r_ra G (pn := 461) rfl rfl rfl ?_
  refine r_rf G (pn := 462) rfl rfl rfl ?_
  refine r_il G (pn := 463) rfl rfl rfl ?_
  refine r_ic G (pn := 464) rfl rfl  ?_
  refine r_ib G (pn := 465) rfl rfl  ?_
  refine r_sldK 1 G (pn := 466) rfl rfl rfl (by omega) (by omega) ?_
  refine r_rf G (pn := 467) rfl rfl rfl ?_
  refine r_il G (pn := 468) rfl rfl rfl ?_
  refine r_ic G (pn := 469) rfl rfl  ?_
  refine r_ib G (pn := 470) rfl rfl  ?_
  refine r_sldK 2 G (pn := 471) rfl rfl rfl (by omega) (by omega) ?_
  refine r_inv3 G (pn := 474) rfl rfl k81 (Nat.le_of_ble_eq_true rfl) (by omega) (by omega) (am_KA_m (L, xs) d _ _ _ _ _ (fun v h2 hv => ?_) hk)
  obtain ⟨ev, hW2⟩ := hv
  subst ev
  show am_Go _ _ _ 474 [some (.float 0), some (.ref 0), some (.ref 81), some (.int (nI i))] [.int a, .int a] h2 _ _
  refine r_if2 G (pn := 477) rfl rfl (fun c474 => ?_) (fun c474 => ?_)
  · exact nxt h2 hW2
  · exact absurd rfl c474
set_option maxRecDepth 100000 in
theorem law_loop (hd : 11 ≤ d) (hL : L ≤ 3073) {c z : Nat} (hc : c ≤ 600000) (hz : z ≤ 7302250) : ∀ (k i : Nat) (h : am_H), L < i + k → i ≤ 3079 → Wrl h → am_Go (am_KA (L, xs) d) (am_fetch (cd_law (L, xs))) (fun v _ => v = some (.int 1)) 28 [some (.float 0), some (.ref 0), some (.ref 81), some (.int (nI i))] [] h c z := by
  have G : am_GK (am_KA (L, xs) d) (cd_law (L, xs)) := ⟨am_KA_m (L, xs) d, cm_law (L, xs)⟩
  intro k
  induction k using Nat.strongRecOn with
  | ind k ih =>
    intro i h hk hi9 hW
    refine r_il G (pn := 29) rfl rfl rfl ?_
    refine r_rf G (pn := 30) rfl rfl rfl ?_
    refine r_slen G (pn := 31) rfl rfl  ?_
    refine r_ic G (pn := 33) rfl rfl  ?_
    refine r_ib G (pn := 34) rfl rfl  ?_
    refine r_if2 G (pn := 37) rfl rfl (fun c34 => ?_) (fun c34 => ?_)
    · refine r_ic G (pn := 486) rfl rfl  ?_
      exact r_iret G rfl (by decide) rfl
    have hi : i + 6 ≤ L := Nat.not_lt.mp (fun y => c34 ((law_lim hL (by omega)).mpr y))
    have nxt : ∀ h', Wrl h' → am_Go (am_KA (L, xs) d) (am_fetch (cd_law (L, xs))) (fun v _ => v = some (.int 1)) 479 [some (.float 0), some (.ref 0), some (.ref 81), some (.int (nI i))] [] h' c z := by
      intro h' hW'
      refine r_inc G (pn := 482) rfl rfl rfl (Nat.le_of_ble_eq_true rfl) ?_
      refine r_goto G rfl ?_
      rw [show nI i + 6 = nI (i + 6) from nI_add i 6]
      exact ih (k - 6) (by omega) (i + 6) h' (by omega) (by omega) hW'
    refine r_rf G (pn := 38) rfl rfl rfl ?_
    refine r_il G (pn := 39) rfl rfl rfl ?_
    refine r_sld G (pn := 40) rfl rfl (vp_in_nI (by omega) (by omega)) ?_
    refine r_ic G (pn := 42) rfl rfl  ?_
    refine r_ib G (pn := 43) rfl rfl  ?_
    refine am_go G (T := am_tsw 479 0 12 [108, 133, 146, 159, 172, 195, 228, 271, 314, 377, 420, 433, 446]) rfl ?_
    refine ⟨fun _ => nxt h hW, fun q hq _ => ?_⟩
    match q, hq with
    | 0, _ => exact lc_key hd G hL hi hc hz hW nxt
    | 1, _ => exact lc_back hd G hL hi hc hz hW nxt
    | 2, _ => exact lc_enter hd G hL hi hc hz hW nxt
    | 3, _ => exact lc_species hd G hL hi hc hz hW nxt
    | 4, _ => exact lc_size hd G hL hi hc hz hW nxt
    | 5, _ => exact lc_atom hd G hL hi hc hz hW nxt
    | 6, _ => exact lc_bond hd G hL hi hc hz hW nxt
    | 7, _ => exact lc_rule hd G hL hi hc hz hW nxt
    | 8, _ => exact lc_change hd G hL hi hc hz hW nxt
    | 9, _ => exact lc_matches hd G hL hi hc hz hW nxt
    | 10, _ => exact lc_round hd G hL hi hc hz hW nxt
    | 11, _ => exact lc_reactions hd G hL hi hc hz hW nxt
    | 12, _ => exact lc_reaction hd G hL hi hc hz hW nxt
    | q + 13, hq => exact absurd hq (by show ¬ q + 13 < 13; omega)
end
