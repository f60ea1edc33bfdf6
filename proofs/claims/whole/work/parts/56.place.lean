theorem tb_div (T k : Nat) : (T / 2 ^ k % 2 = 1) ↔ T.testBit k = true := by
  rw [Nat.testBit_eq_decide_div_mod_eq]
  simp
theorem am_bit {T k : Nat} (hT : T < 2 ^ 31) (hk : k < 32) : (nI T >>> (nI k &&& 31)) &&& 1 = nI (T / 2 ^ k % 2) := by
  rw [am_shrI hT hk]
  exact pk_andN (by have := Nat.div_le_self T (2 ^ k); omega) 1 (by decide)
theorem am_shl1 : ∀ k, k < 31 → (1 : Int32) <<< (nI k &&& 31) = nI (2 ^ k) := by decide +kernel
/-- what a search from a place on leaves -/
def vPost (od : Nat → Nat → Nat) (cd srt : Nat → Nat) (cnt pl : Nat) (sg L : Nat → Nat) (fo : Nat → Int32) (h h' : am_H) : Prop :=
  am_fr (fun i => i = 37 ∨ i = 38) h h' ∧ ∃ (fo' fl' : Nat → Int32) (L' : Nat → Nat), h'[37]? = some (aI 5 fo') ∧ (∀ q, q < pl → fo' q = fo q) ∧ h'[38]? = some (aI 5 fl') ∧ (∀ q, q < cnt → fl' q = nI (L' q)) ∧ vReal od cd srt cnt L' ∧ (∀ q, q < cnt → L' q ≤ L q) ∧ (∀ s2, vOk cd srt cnt s2 cnt → (∀ q, q < pl → s2 q = sg q) → vMin od cd srt cnt s2 → L' (cnt - 1) ≤ vl od srt s2 cnt)
theorem vReal.le {od : Nat → Nat → Nat} {cd srt : Nat → Nat} {cnt : Nat} {L : Nat → Nat} (h : vReal od cd srt cnt L) (h5 : cnt ≤ 5) (ho : ∀ i j, i < cnt → j < cnt → od (srt i) (srt j) < 4) {p : Nat} (hp : p < cnt) : L p ≤ 1048576 := by
  rcases h p hp with q | ⟨t, ht, e⟩
  · omega
  · have := vl_lt (sg := t) h5 ho (p := p + 1) (by omega) (fun q hq => (ht.1 q hq).1)
    have := tri_le (p := p + 1) (by omega)
    omega
set_option maxHeartbeats 2000000 in
theorem sp_84_step {lx : am_Lx} {g N n cnt : Nat} {cd srt : Nat → Nat} {od : Nat → Nat → Nat} {fs : Nat → Int32} (hN : N ≤ 24) (hnN : n ≤ N) (hcnt : cnt ≤ 5) (hgr : g + 3 + N < 35 ∨ 38 < g) (ho : ∀ i j, i < n → j < n → od i j < 4) (hcd : ∀ i, i < n → cd i < 4) (hsrt : ∀ q, q < cnt → srt q < n) (hfs : ∀ q, q < cnt → fs q = nI (srt q)) {pl d : Nat} (hplc : pl < cnt) (hd : 2 ≤ d)
    (rec_ : pl + 1 < cnt → ∀ (h : am_H) (sg L : Nat → Nat) (T : Nat) (fo fl : Nat → Int32) (Q : am_Q), GrI g N h n cd od → h[35]? = some kO → h[36]? = some (aI 5 fs) → h[37]? = some (aI 5 fo) → h[38]? = some (aI 5 fl) → (∀ q, q < pl + 1 → fo q = nI (srt (sg q))) → (∀ q, q < cnt → fl q = nI (L q)) → vReal od cd srt cnt L → vOk cd srt cnt sg (pl + 1) → T < 32 → (∀ k, T.testBit k = true ↔ ∃ p, p < pl + 1 ∧ sg p = k) → (∀ h', vPost od cd srt cnt (pl + 1) sg L fo h h' → Q none h') → am_KA lx (d - 1) 84 [.ref 35, .ref g, .int (nI cnt), .int (nI (pl + 1)), .int (nI (vl od srt sg (pl + 1))), .int (nI T)] h Q)
    {h : am_H} {sg L : Nat → Nat} {T : Nat} {fo fl : Nat → Int32} {Q : am_Q} (hI : GrI g N h n cd od) (h35 : h[35]? = some kO) (h36 : h[36]? = some (aI 5 fs)) (h37 : h[37]? = some (aI 5 fo)) (h38 : h[38]? = some (aI 5 fl)) (hfo : ∀ q, q < pl → fo q = nI (srt (sg q))) (hfl : ∀ q, q < cnt → fl q = nI (L q)) (hL : vReal od cd srt cnt L) (hsg : vOk cd srt cnt sg pl) (hT : T < 32) (hTb : ∀ k, T.testBit k = true ↔ ∃ p, p < pl ∧ sg p = k) (hq : ∀ h', vPost od cd srt cnt pl sg L fo h h' → Q none h') :
      am_KA lx d 84 [.ref 35, .ref g, .int (nI cnt), .int (nI pl), .int (nI (vl od srt sg pl)), .int (nI T)] h Q := by
  have hos : ∀ i j, i < cnt → j < cnt → od (srt i) (srt j) < 4 := fun i j hi hj => ho _ _ (hsrt i hi) (hsrt j hj)
  have hgP : ∀ i, grP g N i → ¬ (i = 37 ∨ i = 38) := fun i hi => by
    have h1 := hi.1
    have h2 := hi.2
    omega
  obtain ⟨e, rfl⟩ : ∃ e, d = e + 1 := ⟨d - 1, by omega⟩
  have G : am_GK (am_KA lx e) cd_84 := ⟨am_KA_m lx e, cm_84⟩
  refine am_KA_in (by decide) (Nat.le_of_ble_eq_true rfl) ?_
  show am_Go (am_KA lx e) (am_fetch cd_84) Q 0 [some (.ref 35), some (.ref g), some (.int (nI cnt)), some (.int (nI pl)), some (.int (nI (vl od srt sg pl))), some (.int (nI T)), none, none, none, none] [] h 0 0
  obtain ⟨f2, h2, g2⟩ := hI.2.1
  have hI1 := hI.1
  refine r_ra G (pn := 1) rfl rfl rfl ?_
  refine r_get G (pn := 4) rfl rfl (by first | assumption | (repeat (first | assumption | exact am_eq (by first | assumption | exact am_eq (by assumption) | exact am_ne (by first | decide | omega) (by assumption)) | refine am_ne (by first | decide | omega) ?_))) rfl ?_
  refine r_ra G (pn := 5) rfl rfl rfl ?_
  refine r_get G (pn := 8) rfl rfl (by first | assumption | (repeat (first | assumption | exact am_eq (by first | assumption | exact am_eq (by assumption) | exact am_ne (by first | decide | omega) (by assumption)) | refine am_ne (by first | decide | omega) ?_))) rfl ?_
  refine r_il G (pn := 9) rfl rfl rfl ?_
  refine r_ialdN G (pn := 10) rfl rfl h36 (by omega) (by omega) ?_
  rw [hfs pl hplc]
  have hsp := hsrt pl hplc
  refine r_ialdN G (pn := 11) rfl rfl h2 (by omega) (by omega) ?_
  rw [g2 _ hsp]
  refine r_is G (pn := 13) rfl rfl (Nat.le_of_ble_eq_true rfl) ?_
  refine r_ic G (pn := 14) rfl rfl  ?_
  refine r_is G (pn := 16) rfl rfl (Nat.le_of_ble_eq_true rfl) ?_
  have lp : ∀ (k i : Nat), i + k = cnt → ∀ (d8 d9 : Option Value) (h1 : am_H) (fo1 fl1 : Nat → Int32) (L1 : Nat → Nat), am_fr (fun i => i = 37 ∨ i = 38) h h1 → h1[37]? = some (aI 5 fo1) → (∀ q, q < pl → fo1 q = fo q) → h1[38]? = some (aI 5 fl1) → (∀ q, q < cnt → fl1 q = nI (L1 q)) → vReal od cd srt cnt L1 → (∀ q, q < cnt → L1 q ≤ L q) → (∀ s2, vOk cd srt cnt s2 cnt → (∀ q, q < pl → s2 q = sg q) → vMin od cd srt cnt s2 → s2 pl < i → L1 (cnt - 1) ≤ vl od srt s2 cnt) → am_Go (am_KA lx e) (am_fetch cd_84) Q 16 [some (.ref 35), some (.ref g), some (.int (nI cnt)), some (.int (nI pl)), some (.int (nI (vl od srt sg pl))), some (.int (nI T)), some (.int (nI (cd (srt pl)))), some (.int (nI i)), d8, d9] [] h1 0 0 := by
    intro k
    induction k with
    | zero =>
      intro i hi d8 d9 h1 fo1 fl1 L1 hf j37 a1 j38 a2 a3 a4 a5
      obtain rfl : i = cnt := by omega
      refine r_il G (pn := 18) rfl rfl rfl ?_
      refine r_il G (pn := 19) rfl rfl rfl ?_
      refine r_if2 G (pn := 22) rfl rfl (fun c19 => ?_) (fun c19 => ?_)
      · refine r_vret G rfl (hq h1 ⟨hf, fo1, fl1, L1, j37, a1, j38, a2, a3, a4, fun s2 b1 b2 b3 => a5 s2 b1 b2 b3 (b1.1 pl hplc).1⟩)
      · exact absurd (Int32.le_refl _) c19
    | succ k ih =>
      intro i hi d8 d9 h1 fo1 fl1 L1 hf j37 a1 j38 a2 a3 a4 a5
      have j35 : h1[35]? = some kO := hf.at (by omega) h35
      have j36 : h1[36]? = some (aI 5 fs) := hf.at (by omega) h36
      have hJ : GrI g N h1 n cd od := hI.fr hf hgP
      obtain ⟨f2', j2, g2'⟩ := hJ.2.1
      have hJ1 := hJ.1
      have hsi := hsrt i (by omega)
      have c16 := hcd _ hsi
      have c17 := hcd _ hsp
      have skip : ∀ (d8 d9 : Option Value), (∀ s2, vOk cd srt cnt s2 cnt → (∀ q, q < pl → s2 q = sg q) → vMin od cd srt cnt s2 → s2 pl = i → False) → am_Go (am_KA lx e) (am_fetch cd_84) Q 123 [some (.ref 35), some (.ref g), some (.int (nI cnt)), some (.int (nI pl)), some (.int (nI (vl od srt sg pl))), some (.int (nI T)), some (.int (nI (cd (srt pl)))), some (.int (nI i)), d8, d9] [] h1 0 0 := by
        intro d8 d9 hno
        refine r_inc G (pn := 126) rfl rfl rfl (Nat.le_of_ble_eq_true rfl) ?_
        refine r_goto G rfl ?_
        rw [nI_1]
        refine ih (i + 1) (by omega) _ _ h1 fo1 fl1 L1 hf j37 a1 j38 a2 a3 a4 (fun s2 b1 b2 b3 b4 => ?_)
        by_cases z : s2 pl = i
        · exact (hno s2 b1 b2 b3 z).elim
        · exact a5 s2 b1 b2 b3 (by omega)
      refine r_il G (pn := 18) rfl rfl rfl ?_
      refine r_il G (pn := 19) rfl rfl rfl ?_
      refine r_if2 G (pn := 22) rfl rfl (fun c19 => ?_) (fun c19 => ?_)
      · exact absurd ((nI_leI (by omega) (by omega)).mp c19) (by omega)
      · refine r_ra G (pn := 23) rfl rfl rfl ?_
        refine r_get G (pn := 26) rfl rfl (by first | assumption | (repeat (first | assumption | exact am_eq (by first | assumption | exact am_eq (by assumption) | exact am_ne (by first | decide | omega) (by assumption)) | refine am_ne (by first | decide | omega) ?_))) rfl ?_
        refine r_il G (pn := 28) rfl rfl rfl ?_
        refine r_ialdN G (pn := 29) rfl rfl j36 (by omega) (by omega) ?_
        rw [hfs i (by omega)]
        refine r_is G (pn := 31) rfl rfl (Nat.le_of_ble_eq_true rfl) ?_
        refine r_il G (pn := 33) rfl rfl rfl ?_
        refine r_il G (pn := 35) rfl rfl rfl ?_
        refine r_ib G (pn := 36) rfl rfl  ?_
        refine r_ic G (pn := 37) rfl rfl  ?_
        refine r_ib G (pn := 38) rfl rfl  ?_
        rw [am_bit (by omega) (by omega)]
        refine r_if1 G (pn := 41) rfl rfl (fun c38 => ?_) (fun c38 => ?_)
        · refine skip _ _ (fun s2 b1 b2 b3 b4 => ?_)
          have hbit : T.testBit i = true := by
            rw [← tb_div]
            have : ¬ T / 2 ^ i % 2 = 0 := fun q => c38 (by rw [q]; rfl)
            omega
          obtain ⟨p, hp, e9⟩ := (hTb i).mp hbit
          have := b1.2 p pl (by omega) hplc (by rw [b2 p hp, e9, b4])
          omega
        · have hnb : ¬ T.testBit i = true := by
            rw [← tb_div]
            intro q
            exact c38 (by rw [q]; decide)
          refine r_ra G (pn := 42) rfl rfl rfl ?_
          refine r_get G (pn := 45) rfl rfl (by first | assumption | (repeat (first | assumption | exact am_eq (by first | assumption | exact am_eq (by assumption) | exact am_ne (by first | decide | omega) (by assumption)) | refine am_ne (by first | decide | omega) ?_))) rfl ?_
          refine r_il G (pn := 47) rfl rfl rfl ?_
          refine r_ialdN G (pn := 48) rfl rfl j2 (by omega) (by omega) ?_
          refine r_il G (pn := 50) rfl rfl rfl ?_
          rw [g2' _ hsi]
          refine r_if2 G (pn := 53) rfl rfl (fun c50 => ?_) (fun c50 => ?_)
          · have hcode : cd (srt i) = cd (srt pl) := (nI_eq (by omega) (by omega)).mp c50
            have hsub : vOk cd srt cnt (fun q => if q = pl then i else sg q) (pl + 1) := by
              refine ⟨fun p hp => ?_, fun p q hp hq z => ?_⟩
              · by_cases e9 : p = pl
                · simp only [e9, if_true]
                  exact ⟨by omega, hcode⟩
                · simp only [e9, if_false]
                  exact hsg.1 p (by omega)
              · by_cases p9 : p = pl <;> by_cases q9 : q = pl
                · omega
                · simp only [p9, q9, if_true, if_false] at z
                  exact absurd ((hTb i).mpr ⟨q, by omega, z.symm⟩) hnb
                · simp only [p9, q9, if_true, if_false] at z
                  exact absurd ((hTb i).mpr ⟨p, by omega, z⟩) hnb
                · simp only [p9, q9, if_false] at z
                  exact hsg.2 p q (by omega) (by omega) z
            have hvl : wo od (fun q => srt (sg q)) (srt i) (vl od srt sg pl) pl = vl od srt (fun q => if q = pl then i else sg q) (pl + 1) := by
              show _ = wo od (fun k => srt (if k = pl then i else sg k)) (srt (if pl = pl then i else sg pl)) (vl od srt (fun q => if q = pl then i else sg q) pl) pl
              rw [if_pos rfl, vl_congr (s1 := fun q => if q = pl then i else sg q) (s2 := sg) (fun q hq => by show (if q = pl then i else sg q) = sg q; rw [if_neg (by omega)])]
              exact wo_congr (fun q hq => by show _ = srt (if q = pl then i else sg q); rw [if_neg (by omega)])
            have hvlt : vl od srt (fun q => if q = pl then i else sg q) (pl + 1) < 1048576 := Nat.lt_of_lt_of_le (vl_lt hcnt hos (by omega) (fun q hq => (hsub.1 q hq).1)) (tri_le (by omega))
            have hvs := vl_lt (sg := sg) hcnt hos (p := pl) (by omega) (fun q hq => (hsg.1 q hq).1)
            have hvs2 := tri_le (p := pl) (by omega)
            refine r_ra G (pn := 57) rfl rfl rfl ?_
            refine r_ra G (pn := 58) rfl rfl rfl ?_
            refine r_il G (pn := 60) rfl rfl rfl ?_
            refine r_il G (pn := 61) rfl rfl rfl ?_
            refine r_il G (pn := 63) rfl rfl rfl ?_
            refine r_inv5 G (pn := 66) rfl rfl j35 (Nat.le_of_ble_eq_true rfl) (Nat.le_of_ble_eq_true rfl) (Nat.le_of_ble_eq_true rfl) (sp_85 (ord := fun q => srt (sg q)) (by omega) hJ hN hnN j35 j37 (fun q hq => ⟨by rw [a1 q hq, hfo q hq], hsrt _ (hsg.1 q hq).1⟩) hsi (by omega) ho hvs ?_)
            rw [hvl]
            generalize hlg : vl od srt (fun q => if q = pl then i else sg q) (pl + 1) = lg at hvlt
            show am_Go (am_KA lx e) (am_fetch cd_84) Q 66 [some (.ref 35), some (.ref g), some (.int (nI cnt)), some (.int (nI pl)), some (.int (nI (vl od srt sg pl))), some (.int (nI T)), some (.int (nI (cd (srt pl)))), some (.int (nI i)), some (.int (nI (srt i))), d9] [.int (nI lg)] h1 0 0
            refine r_is G (pn := 68) rfl rfl (Nat.le_of_ble_eq_true rfl) ?_
            refine r_il G (pn := 70) rfl rfl rfl ?_
            refine r_ra G (pn := 71) rfl rfl rfl ?_
            refine r_get G (pn := 74) rfl rfl (by first | assumption | (repeat (first | assumption | exact am_eq (by first | assumption | exact am_eq (by assumption) | exact am_ne (by first | decide | omega) (by assumption)) | refine am_ne (by first | decide | omega) ?_))) rfl ?_
            refine r_il G (pn := 75) rfl rfl rfl ?_
            refine r_ialdN G (pn := 76) rfl rfl j38 (by omega) (by omega) ?_
            rw [a2 pl hplc]
            have hLp := a3.le hcnt hos hplc
            refine r_if2 G (pn := 79) rfl rfl (fun c76 => ?_) (fun c76 => ?_)
            · have hle : lg ≤ L1 pl := (nI_leI (by omega) (by omega)).mp c76
              refine r_ra G (pn := 83) rfl rfl rfl ?_
              refine r_get G (pn := 86) rfl rfl (by first | assumption | (repeat (first | assumption | exact am_eq (by first | assumption | exact am_eq (by assumption) | exact am_ne (by first | decide | omega) (by assumption)) | refine am_ne (by first | decide | omega) ?_))) rfl ?_
              refine r_il G (pn := 87) rfl rfl rfl ?_
              refine r_il G (pn := 89) rfl rfl rfl ?_
              refine r_iastN G (pn := 90) rfl rfl j38 (by omega) (by omega) ?_
              refine r_il G (pn := 91) rfl rfl rfl ?_
              refine r_ic G (pn := 92) rfl rfl  ?_
              refine r_ib G (pn := 93) rfl rfl  ?_
              refine r_il G (pn := 94) rfl rfl rfl ?_
              rw [nI_1]
              have b3 : vReal od cd srt cnt (fun q => if q = pl then lg else L1 q) := by
                intro p hp
                by_cases e9 : p = pl
                · simp only [e9, if_true]
                  exact Or.inr ⟨_, hsub, hlg.symm⟩
                · simp only [e9, if_false]
                  exact a3 p hp
              have b4 : ∀ q, q < cnt → (fun q => if q = pl then lg else L1 q) q ≤ L1 q := by
                intro q hq
                by_cases e9 : q = pl
                · simp only [e9, if_true]
                  exact hle
                · simp only [e9, if_false]
                  exact Nat.le_refl _
              have b2 : ∀ q, q < cnt → upd fl1 pl (nI lg) q = nI ((fun q => if q = pl then lg else L1 q) q) := by
                intro q hq
                by_cases e9 : q = pl
                · rw [e9, pk_us]; simp
                · rw [pk_un e9, a2 q hq]; simp [e9]
              refine r_if2 G (pn := 97) rfl rfl (fun c94 => ?_) (fun c94 => ?_)
              · have hlast : pl + 1 = cnt := by
                  have := (nI_leI (a := cnt) (b := pl + 1) (by omega) (by omega)).mp c94
                  omega
                refine r_inc G (pn := 126) rfl rfl rfl (Nat.le_of_ble_eq_true rfl) ?_
                refine r_goto G rfl ?_
                rw [nI_1]
                refine ih (i + 1) (by omega) _ _ _ fo1 _ _ (hf.put (Or.inr rfl)) (am_ne (by decide) j37) a1 (am_eq j38) b2 b3 (fun q hq => Nat.le_trans (b4 q hq) (a4 q hq)) (fun s2 d1 d2 d3 d4 => ?_)
                by_cases z : s2 pl = i
                · have e1 : cnt - 1 = pl := by omega
                  rw [e1]
                  simp only [if_true]
                  rw [← hlg, ← hlast, vl_congr (s1 := s2) (s2 := fun q => if q = pl then i else sg q) (fun q hq => ?_)]
                  · exact Nat.le_refl _
                  · by_cases e9 : q = pl
                    · rw [e9, z]; simp
                    · rw [d2 q (by omega)]; simp [e9]
                · exact Nat.le_trans (b4 _ (by omega)) (a5 s2 d1 d2 d3 (by omega))
              · have hmore : pl + 1 < cnt := by
                  have : ¬ cnt ≤ pl + 1 := fun q => c94 ((nI_leI (by omega) (by omega)).mpr q)
                  omega
                refine r_ra G (pn := 98) rfl rfl rfl ?_
                refine r_get G (pn := 101) rfl rfl (am_ne (by decide) j35) rfl ?_
                refine r_il G (pn := 102) rfl rfl rfl ?_
                refine r_il G (pn := 104) rfl rfl rfl ?_
                refine r_iastN G (pn := 105) rfl rfl (am_ne (by decide) j37) (by omega) (by omega) ?_
                refine r_ra G (pn := 106) rfl rfl rfl ?_
                refine r_ra G (pn := 107) rfl rfl rfl ?_
                refine r_il G (pn := 108) rfl rfl rfl ?_
                refine r_il G (pn := 109) rfl rfl rfl ?_
                refine r_ic G (pn := 110) rfl rfl  ?_
                refine r_ib G (pn := 111) rfl rfl  ?_
                refine r_il G (pn := 113) rfl rfl rfl ?_
                refine r_il G (pn := 115) rfl rfl rfl ?_
                refine r_ic G (pn := 116) rfl rfl  ?_
                refine r_il G (pn := 118) rfl rfl rfl ?_
                refine r_ib G (pn := 119) rfl rfl  ?_
                refine r_ib G (pn := 120) rfl rfl  ?_
                rw [nI_1, am_shl1 i (by omega), am_nI_or (by omega) (by have : (2 : Nat) ^ i ≤ 2 ^ 4 := Nat.pow_le_pow_right (by decide) (by omega); omega)]
                have hT2 : T ||| 2 ^ i < 32 := Nat.or_lt_two_pow (n := 5) hT (by have : (2 : Nat) ^ i ≤ 2 ^ 4 := Nat.pow_le_pow_right (by decide) (by omega); omega)
                have k1 : ((h1.set 38 (aI 5 (upd fl1 pl (nI lg)))).set 37 (aI 5 (upd fo1 pl (nI (srt i)))))[35]? = some kO := am_ne (by decide) (am_ne (by decide) j35)
                have hf2 : am_fr (fun i => i = 37 ∨ i = 38) h ((h1.set 38 (aI 5 (upd fl1 pl (nI lg)))).set 37 (aI 5 (upd fo1 pl (nI (srt i))))) := (hf.put (Or.inr rfl)).put (Or.inl rfl)
                refine r_inv6 G (pn := 123) rfl rfl k1 (Nat.le_of_ble_eq_true rfl) (Nat.le_of_ble_eq_true rfl) (Nat.le_of_ble_eq_true rfl) ?_
                have rec3 := fun h L T fo fl Q => rec_ hmore h (fun q => if q = pl then i else sg q) L T fo fl Q
                rw [hlg] at rec3
                refine rec3 _ (fun q => if q = pl then lg else L1 q) (T ||| 2 ^ i) (upd fo1 pl (nI (srt i))) _ _ (hI.fr hf2 hgP) k1 (am_ne (by decide) (am_ne (by decide) j36)) (am_eq (am_ne (by decide) j37)) (am_ne (by decide) (am_eq j38)) (fun q hq => ?_) b2 b3 hsub hT2 (fun k9 => ?_) (fun h3 hp3 => ?_)
                · by_cases e9 : q = pl
                  · rw [e9, pk_us]; simp
                  · rw [pk_un e9, a1 q (by omega), hfo q (by omega)]; simp [e9]
                · rw [Nat.testBit_or, Nat.testBit_two_pow, Bool.or_eq_true, decide_eq_true_eq, hTb]
                  constructor
                  · rintro (⟨p, hp, e9⟩ | e9)
                    · exact ⟨p, by omega, by rw [if_neg (by omega)]; exact e9⟩
                    · exact ⟨pl, by omega, by rw [if_pos rfl]; exact e9⟩
                  · rintro ⟨p, hp, e9⟩
                    by_cases p9 : p = pl
                    · rw [if_pos p9] at e9
                      exact Or.inr e9
                    · rw [if_neg p9] at e9
                      exact Or.inl ⟨p, by omega, e9⟩
                · obtain ⟨q1, fo3, fl3, L3, q2, q3, q4, q5, q6, q7, q8⟩ := hp3
                  show am_Go (am_KA lx e) (am_fetch cd_84) Q 123 [some (.ref 35), some (.ref g), some (.int (nI cnt)), some (.int (nI pl)), some (.int (nI (vl od srt sg pl))), some (.int (nI T)), some (.int (nI (cd (srt pl)))), some (.int (nI i)), some (.int (nI (srt i))), some (.int (nI lg))] [] h3 0 0
                  refine r_inc G (pn := 126) rfl rfl rfl (Nat.le_of_ble_eq_true rfl) ?_
                  refine r_goto G rfl ?_
                  rw [nI_1]
                  refine ih (i + 1) (by omega) _ _ h3 fo3 fl3 L3 (hf2.tr q1) q2 (fun q hq => ?_) q4 q5 q6 (fun q hq => Nat.le_trans (q7 q hq) (Nat.le_trans (b4 q hq) (a4 q hq))) (fun s2 d1 d2 d3 d4 => ?_)
                  · rw [q3 q (by omega), pk_un (by omega), a1 q hq]
                  · by_cases z : s2 pl = i
                    · refine q8 s2 d1 (fun q hq => ?_) d3
                      by_cases e9 : q = pl
                      · rw [e9, z]; simp
                      · rw [d2 q (by omega)]; simp [e9]
                    · exact Nat.le_trans (q7 _ (by omega)) (Nat.le_trans (b4 _ (by omega)) (a5 s2 d1 d2 d3 (by omega)))
            · refine r_goto G rfl ?_
              refine skip _ _ (fun s2 d1 d2 d3 d4 => ?_)
              have hgt : L1 pl < lg := Nat.not_le.mp (fun q => c76 ((nI_leI (by omega) (by omega)).mpr q))
              have ev : vl od srt s2 (pl + 1) = lg := by
                rw [← hlg]
                refine vl_congr (fun q hq => ?_)
                by_cases e9 : q = pl
                · rw [e9, d4]; simp
                · rw [d2 q (by omega)]; simp [e9]
              rcases a3 pl hplc with z | ⟨t, ht, z⟩
              · omega
              · have := d3 pl hplc t ht
                omega
          · refine r_goto G rfl ?_
            refine skip _ _ (fun s2 d1 d2 d3 d4 => ?_)
            have := (d1.1 pl hplc).2
            rw [d4] at this
            exact c50 (by rw [this])
  exact lp cnt 0 (by omega) none none h fo fl L am_fr.rf h37 (fun _ _ => rfl) h38 hfl hL (fun _ _ => Nat.le_refl _) (fun s2 _ _ _ q => absurd q (by omega))
set_option maxHeartbeats 1000000 in
theorem sp_84 {lx : am_Lx} {g N n cnt : Nat} {cd srt : Nat → Nat} {od : Nat → Nat → Nat} {fs : Nat → Int32} (hN : N ≤ 24) (hnN : n ≤ N) (hcnt : cnt ≤ 5) (hgr : g + 3 + N < 35 ∨ 38 < g) (ho : ∀ i j, i < n → j < n → od i j < 4) (hcd : ∀ i, i < n → cd i < 4) (hsrt : ∀ q, q < cnt → srt q < n) (hfs : ∀ q, q < cnt → fs q = nI (srt q)) :
    ∀ (r pl d : Nat), pl + r + 1 = cnt → r + 2 ≤ d → ∀ (h : am_H) (sg L : Nat → Nat) (T : Nat) (fo fl : Nat → Int32) (Q : am_Q), GrI g N h n cd od → h[35]? = some kO → h[36]? = some (aI 5 fs) → h[37]? = some (aI 5 fo) → h[38]? = some (aI 5 fl) → (∀ q, q < pl → fo q = nI (srt (sg q))) → (∀ q, q < cnt → fl q = nI (L q)) → vReal od cd srt cnt L → vOk cd srt cnt sg pl → T < 32 → (∀ k, T.testBit k = true ↔ ∃ p, p < pl ∧ sg p = k) → (∀ h', vPost od cd srt cnt pl sg L fo h h' → Q none h') →
      am_KA lx d 84 [.ref 35, .ref g, .int (nI cnt), .int (nI pl), .int (nI (vl od srt sg pl)), .int (nI T)] h Q := by
  intro r
  induction r with
  | zero =>
    intro pl d hpl hd h sg L T fo fl Q hI h35 h36 h37 h38 hfo hfl hL hsg hT hTb hq
    exact sp_84_step hN hnN hcnt hgr ho hcd hsrt hfs (by omega) hd (fun q => absurd q (by omega)) hI h35 h36 h37 h38 hfo hfl hL hsg hT hTb hq
  | succ r ihr =>
    intro pl d hpl hd h sg L T fo fl Q hI h35 h36 h37 h38 hfo hfl hL hsg hT hTb hq
    exact sp_84_step hN hnN hcnt hgr ho hcd hsrt hfs (by omega) (by omega) (fun _ => ihr (pl + 1) (d - 1) (by omega) (by omega)) hI h35 h36 h37 h38 hfo hfl hL hsg hT hTb hq
