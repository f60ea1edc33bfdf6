theorem e16_dig {t : Nat → Nat} (h : ∀ k, k < 5 → t k < 16) {k : Nat} (hk : k < 5) : e16 t 5 / 2 ^ (4 * (4 - k)) % 16 = t k := by
  have a0 := h 0 (by omega); have a1 := h 1 (by omega); have a2 := h 2 (by omega); have a3 := h 3 (by omega); have a4 := h 4 (by omega)
  rw [e16_5]
  rcases (show k = 0 ∨ k = 1 ∨ k = 2 ∨ k = 3 ∨ k = 4 by omega) with z | z | z | z | z
  · rw [z, show 2 ^ (4 * (4 - 0)) = 65536 from rfl]; omega
  · rw [z, show 2 ^ (4 * (4 - 1)) = 4096 from rfl]; omega
  · rw [z, show 2 ^ (4 * (4 - 2)) = 256 from rfl]; omega
  · rw [z, show 2 ^ (4 * (4 - 3)) = 16 from rfl]; omega
  · rw [z, show 2 ^ (4 * (4 - 4)) = 1 from rfl]; omega
def Sor (n : Nat) (L : Nat → Nat → Nat) : Prop := ∀ i j, i < j → j < n → e16 (L i) 5 < e16 (L j) 5
theorem Sor.ne {n : Nat} {L : Nat → Nat → Nat} (h : Sor n L) : ∀ i j, i < j → j < n → ¬ eq5 (L i) (L j) := by
  intro i j hij hj e
  have := h i j hij hj
  rw [e16_5, e16_5, e 0 (by omega), e 1 (by omega), e 2 (by omega), e 3 (by omega), e 4 (by omega)] at this
  omega
theorem RowM.eq5 {mu t t2 t3 : Nat → Nat} (h : RowM mu t t2) (e : eq5 t2 t3) : RowM mu t t3 := by
  obtain ⟨h0, h1, h2, h3, h4⟩ := h
  exact ⟨by rw [← e 0 (by omega)]; exact h0, by rw [← e 1 (by omega)]; exact h1, by rw [← e 2 (by omega), ← e 3 (by omega)]; exact h2, by rw [← e 3 (by omega), ← e 4 (by omega)]; exact h3, fun P => by rw [← h4 P]; exact cn_congr (fun i hi => (e (2 + i) (by omega)).symm)⟩
theorem row_room {ln rn : Nat} {L R : Nat → Nat → Nat} {mu t : Nat → Nat} (hs : Sor ln L) (h1 : ∀ j, j < ln → ∃ i, i < rn ∧ RowM mu (R i) (L j)) (h2 : ∃ i, i < rn ∧ RowM mu (R i) t) (hn : ∀ j, j < ln → ¬ eq5 (L j) t) : ln + 1 ≤ rn := by
  have f : ∀ j, ∃ i, j < ln + 1 → i < rn ∧ RowM mu (R i) (if j < ln then L j else t) := by
    intro j
    by_cases z : j < ln
    · obtain ⟨i, hi, g⟩ := h1 j z
      exact ⟨i, fun _ => ⟨hi, by rw [if_pos z]; exact g⟩⟩
    · obtain ⟨i, hi, g⟩ := h2
      exact ⟨i, fun _ => ⟨hi, by rw [if_neg z]; exact g⟩⟩
  have sy : ∀ {x z : Nat → Nat}, eq5 x z → eq5 z x := fun e k hk => (e k hk).symm
  refine inj_le (f := fun j => Classical.choose (f j)) (fun q hq => (Classical.choose_spec (f q) hq).1) (fun p q hp hq e => ?_)
  have e1 := (Classical.choose_spec (f p) hp).2
  have e2 := (Classical.choose_spec (f q) hq).2
  have e : Classical.choose (f p) = Classical.choose (f q) := e
  rw [e] at e1
  have e3 := e1.uniq e2
  by_cases zp : p < ln
  · by_cases zq : q < ln
    · rw [if_pos zp, if_pos zq] at e3
      rcases Nat.lt_trichotomy p q with y | y | y
      · exact absurd e3 (hs.ne p q y zq)
      · exact y
      · exact absurd (sy e3) (hs.ne q p y zp)
    · rw [if_pos zp, if_neg zq] at e3
      exact absurd e3 (hn p zp)
  · by_cases zq : q < ln
    · rw [if_neg zp, if_pos zq] at e3
      exact absurd (sy e3) (hn q zq)
    · omega
section
variable {lx : am_Lx} {d : Nat} {h : am_H} {Q : am_Q}
theorem sp_24 (hd : 4 ≤ d) {cap rc : Int32} {u rn ln : Nat} {R L : Nat → Nat → Nat} {rho mu : Nat → Nat} {fr f68 : Nat → Int32} (h0 : h[0]? = some (sO cap rc)) (h39 : h[39]? = some (tO (nI u))) (h41 : h[41]? = some (aI 12 fr)) (hu : u ≤ 12) (hfr : ∀ q, q < u → fr q = nI (rho q) ∧ rho q < u) (m0 : mu 0 = 0) (m1 : ∀ q, q < u → mu (q + 1) = rho q + 1) (hD : DrI h 66 rn R) (hdig : ∀ i, i < rn → ∀ k, k < 5 → R i k ≤ u) (hL : DrI h 64 ln L) (hs : Sor ln L) (hLR : ∀ j, j < ln → ∃ i, i < rn ∧ RowM mu (R i) (L j)) (h68 : h[68]? = some (aI 5 f68))
    (hq : ∀ h' ln' L', am_fr (fun i => i = 64 ∨ i = 65 ∨ i = 68) h h' → DrI h' 64 ln' L' → Sor ln' L' → (∀ j, j < ln' → ∃ i, i < rn ∧ RowM mu (R i) (L' j)) → (∀ i, i < rn → ∃ j, j < ln' ∧ RowM mu (R i) (L' j)) → (∃ f, h'[68]? = some (aI 5 f)) → Q none h') : am_KA lx d 24 [.ref 0] h Q := by
  have ml : ∀ x, x ≤ u → mu x ≤ u := by
    intro x hx
    cases x with
    | zero => rw [m0]; omega
    | succ x =>
      rw [m1 x (by omega)]
      have := (hfr x (by omega)).2
      omega
  obtain ⟨h66, hr40, fd, h67, gd⟩ := id hD
  obtain ⟨e, rfl⟩ : ∃ e, d = e + 1 := ⟨d - 1, by omega⟩
  have G : am_GK (am_KA lx e) cd_24 := ⟨am_KA_m lx e, cm_24⟩
  refine am_KA_in (by decide) (Nat.le_of_ble_eq_true rfl) ?_
  show am_Go (am_KA lx e) (am_fetch cd_24) Q 0 [some (.ref 0), none, none, none] [] h 0 0
  refine r_ic G (pn := 1) rfl rfl  ?_
  refine r_is G (pn := 2) rfl rfl (Nat.le_of_ble_eq_true rfl) ?_
  have lp : ∀ (z i : Nat) (h' : am_H) (y2 y3 : Option Value) (ln : Nat) (L : Nat → Nat → Nat), i + z = rn → am_fr (fun i => i = 64 ∨ i = 65 ∨ i = 68) h h' → DrI h' 64 ln L → Sor ln L → (∀ j, j < ln → ∃ i, i < rn ∧ RowM mu (R i) (L j)) → (∀ i', i' < i → ∃ j, j < ln ∧ RowM mu (R i') (L j)) → (∃ f, h'[68]? = some (aI 5 f)) → am_Go (am_KA lx e) (am_fetch cd_24) Q 2 [some (.ref 0), some (.int (nI i)), y2, y3] [] h' 0 0 := by
    intro z
    induction z with
    | zero =>
      intro i h' y2 y3 ln L hi hf hL hs hLR hcov k68
      obtain rfl : i = rn := by omega
      have k0 : h'[0]? = some (sO cap rc) := hf.at (by omega) h0
      have k66 := hf.at (by omega) h66
      refine r_il G (pn := 3) rfl rfl rfl ?_
      refine r_ra G (pn := 4) rfl rfl rfl ?_
      refine r_get G (pn := 7) rfl rfl k0 rfl ?_
      refine r_get G (pn := 10) rfl rfl k66 rfl ?_
      refine r_if2 G (pn := 13) rfl rfl (fun c10 => ?_) (fun c10 => ?_)
      rotate_left
      · exact absurd (Int32.le_refl _) c10
      exact r_vret G rfl (hq h' ln L hf hL hs hLR hcov k68)
    | succ z ih =>
      intro i h' y2 y3 ln L hi hf hL hs hLR hcov k68
      have k0 : h'[0]? = some (sO cap rc) := hf.at (by omega) h0
      have k66 := hf.at (by omega) h66
      refine r_il G (pn := 3) rfl rfl rfl ?_
      refine r_ra G (pn := 4) rfl rfl rfl ?_
      refine r_get G (pn := 7) rfl rfl k0 rfl ?_
      refine r_get G (pn := 10) rfl rfl k66 rfl ?_
      refine r_if2 G (pn := 13) rfl rfl (fun c10 => ?_) (fun c10 => ?_)
      · exact absurd ((nI_leI (by omega) (by omega)).mp c10) (by omega)
      refine r_ic G (pn := 14) rfl rfl  ?_
      refine r_is G (pn := 15) rfl rfl (Nat.le_of_ble_eq_true rfl) ?_
      obtain ⟨gi1, gi2⟩ := gd i (by omega)
      have inner : ∀ (z2 k : Nat) (h' : am_H) (y3 : Option Value) (f : Nat → Int32), k + z2 = 5 → am_fr (fun i => i = 64 ∨ i = 65 ∨ i = 68) h h' → DrI h' 64 ln L → h'[68]? = some (aI 5 f) → (∀ q, q < k → f q = nI (mu (R i q)) - 1) → am_Go (am_KA lx e) (am_fetch cd_24) Q 15 [some (.ref 0), some (.int (nI i)), some (.int (nI k)), y3] [] h' 0 0 := by
        intro z2
        induction z2 with
        | zero =>
          intro k h' y3 f hk hf hL k68 gf
          obtain rfl : k = 5 := by omega
          have k0 : h'[0]? = some (sO cap rc) := hf.at (by omega) h0
          refine r_il G (pn := 16) rfl rfl rfl ?_
          refine r_ic G (pn := 17) rfl rfl  ?_
          refine r_if2 G (pn := 20) rfl rfl (fun c17 => ?_) (fun c17 => ?_)
          rotate_left
          · exact absurd (by decide) c17
          refine r_ra G (pn := 61) rfl rfl rfl ?_
          refine r_get G (pn := 64) rfl rfl k0 rfl ?_
          refine r_ic G (pn := 65) rfl rfl  ?_
          refine r_ic G (pn := 66) rfl rfl  ?_
          refine r_ins3 G (pn := 69) rfl rfl (Nat.le_of_ble_eq_true rfl) (Nat.le_of_ble_eq_true rfl) (Nat.le_of_ble_eq_true rfl) (sp_25 (a := 2) (n := 5) (by omega) k68 (by omega) (by omega) (fun f' s1 s2 s3 => ?_))
          obtain ⟨t, t1, t2, t3, t4, t5, t6⟩ := srt_view (M := 16) (v := fun k => mu (R i k)) (by omega) (fun k hk => ⟨gf k hk, by have := ml _ (hdig i (by omega) k hk); show mu (R i k) < 16; omega⟩) s1 s2 s3
          have hM : RowM mu (R i) t := ⟨t2, t3, t4, t5, t6⟩
          have ht16 : ∀ q, q < 5 → t q < 16 := fun q hq => (t1 q hq).2
          have hf2 : am_fr (fun i => i = 64 ∨ i = 65 ∨ i = 68) h (h'.set 68 (aI 5 f')) := hf.put (by omega)
          have l0 : (h'.set 68 (aI 5 f'))[0]? = some (sO cap rc) := am_ne (by decide) k0
          have l68 : (h'.set 68 (aI 5 f'))[68]? = some (aI 5 f') := am_eq k68
          have L2 : DrI (h'.set 68 (aI 5 f')) 64 ln L := hL.fr (P := fun i => i = 68) (am_fr.rf.put rfl) ⟨by omega, by omega⟩
          show am_Go (am_KA lx e) (am_fetch cd_24) Q 69 [some (.ref 0), some (.int (nI i)), some (.int (nI 5)), y3] [] (h'.set 68 (aI 5 f')) 0 0
          generalize (h'.set 68 (aI 5 f') : am_H) = h2 at hf2 l0 l68 L2
          refine r_ra G (pn := 70) rfl rfl rfl ?_
          refine r_get G (pn := 73) rfl rfl l0 rfl ?_
          refine r_ra G (pn := 74) rfl rfl rfl ?_
          refine r_get G (pn := 77) rfl rfl l0 rfl ?_
          refine r_ins1 G (pn := 80) rfl rfl (Nat.le_of_ble_eq_true rfl) (Nat.le_of_ble_eq_true rfl) (Nat.le_of_ble_eq_true rfl) (sp_99 (t := t) (by omega) l68 (fun q hq => (t1 q hq).1) ht16 ?_)
          obtain ⟨m64, m40, mr, m65, mrr⟩ := id L2
          show am_Go (am_KA lx e) (am_fetch cd_24) Q 80 [some (.ref 0), some (.int (nI i)), some (.int (nI 5)), y3] [.int (nI (e16 t 5)), .ref 64] h2 0 0
          have tb := e16_b ht16
          have rb : ∀ j, j < ln → e16 (L j) 5 < 1048576 := fun j hj => e16_b (mrr j hj).2
          refine r_inv2 G (pn := 83) rfl rfl m64 (Nat.le_of_ble_eq_true rfl) (Nat.le_of_ble_eq_true rfl) (Nat.le_of_ble_eq_true rfl) (sp_102 (by omega) m64 m65 m40 (fun ⟨j, hj, ej⟩ => ?_) (fun hne hfull => ?_) (fun p f2 hne hlt hp p1 p2 p3 p4 p5 => ?_))
          · show am_Go (am_KA lx e) (am_fetch cd_24) Q 83 [some (.ref 0), some (.int (nI i)), some (.int (nI 5)), y3] [.int 1] h2 0 0
            have e5 : eq5 (L j) t := (e16_inj (mrr j hj).2 ht16).mp ((nI_eq (by have := rb j hj; omega) (by omega)).mp ((mrr j hj).1.symm.trans ej))
            refine r_pop G (pn := 84) rfl rfl rfl ?_
            refine r_inc G (pn := 87) rfl rfl rfl (Nat.le_of_ble_eq_true rfl) ?_
            refine r_goto G rfl ?_
            rw [nI_1]
            refine ih (i + 1) h2 _ _ ln L (by omega) hf2 L2 hs hLR (fun i' hi' => ?_) ⟨_, l68⟩
            by_cases y : i' = i
            · rw [y]; exact ⟨j, hj, hM.eq5 (fun k hk => (e5 k hk).symm)⟩
            · exact hcov i' (by omega)
          · have := row_room hs hLR ⟨i, by omega, hM⟩ (fun j hj e5 => hne j hj (by rw [(mrr j hj).1, (e16_inj (mrr j hj).2 ht16).mpr e5]))
            omega
          · let L' : Nat → Nat → Nat := fun i => if i < p then L i else if i = p then t else L (i - 1)
            have r1 : ∀ i, i < p → L' i = L i := fun i hi => if_pos hi
            have r2 : L' p = t := by show (if p < p then L p else if p = p then t else L (p - 1)) = t; rw [if_neg (by omega), if_pos rfl]
            have r3 : ∀ i, p < i → L' i = L (i - 1) := fun i h1 => by show (if i < p then L i else if i = p then t else L (i - 1)) = _; rw [if_neg (by omega), if_neg (by omega)]
            have hgt : ∀ j, p ≤ j → j < ln → e16 t 5 < e16 (L j) 5 := by
              intro j h1 h2
              have := p4 j h1 h2
              rw [(mrr j h2).1] at this
              exact (nI_ltI (by omega) (by have := rb j h2; omega)).mp this
            have hlt2 : ∀ j, j < p → e16 (L j) 5 < e16 t 5 := by
              intro j hj
              rcases p5 with z | z
              · omega
              · rw [(mrr (p - 1) (by omega)).1] at z
                have z := (nI_leI (by have := rb (p - 1) (by omega); omega) (by omega)).mp z
                have ne : e16 (L (p - 1)) 5 ≠ e16 t 5 := fun y => hne (p - 1) (by omega) (by rw [(mrr (p - 1) (by omega)).1, y])
                rcases (show j = p - 1 ∨ j < p - 1 by omega) with y | y
                · rw [y]; omega
                · have := hs j (p - 1) y (by omega)
                  omega
            show am_Go (am_KA lx e) (am_fetch cd_24) Q 83 [some (.ref 0), some (.int (nI i)), some (.int (nI 5)), y3] [.int 1] ((h2.set 65 (aI 40 f2)).set 64 (lO 64 (nI (ln + 1)))) 0 0
            refine r_pop G (pn := 84) rfl rfl rfl ?_
            refine r_inc G (pn := 87) rfl rfl rfl (Nat.le_of_ble_eq_true rfl) ?_
            refine r_goto G rfl ?_
            rw [nI_1]
            refine ih (i + 1) _ _ _ (ln + 1) L' (by omega) ((hf2.put (by omega)).put (by omega)) ⟨am_eq (am_ne (by decide) m64), by omega, f2, am_ne (by decide) (am_eq m65), fun j hj => ?_⟩ (fun a b hab hb => ?_) (fun j hj => ?_) (fun i' hi' => ?_) ⟨_, am_ne (by decide) (am_ne (by decide) l68)⟩
            · rcases Nat.lt_trichotomy j p with z | z | z
              · rw [r1 j z, p1 j z]; exact mrr j (by omega)
              · rw [z, r2, p2]; exact ⟨rfl, ht16⟩
              · rw [r3 j z, p3 j z (by omega)]; exact mrr (j - 1) (by omega)
            · rcases Nat.lt_trichotomy a p with za | za | za
              · rw [r1 a za]
                rcases Nat.lt_trichotomy b p with zb | zb | zb
                · rw [r1 b zb]; exact hs a b hab (by omega)
                · rw [zb, r2]; exact hlt2 a za
                · rw [r3 b zb]
                  have := hlt2 a za
                  have := hgt (b - 1) (by omega) (by omega)
                  omega
              · rw [za, r2, r3 b (by omega)]
                exact hgt (b - 1) (by omega) (by omega)
              · rw [r3 a za, r3 b (by omega)]
                exact hs (a - 1) (b - 1) (by omega) (by omega)
            · rcases Nat.lt_trichotomy j p with z | z | z
              · rw [r1 j z]; exact hLR j (by omega)
              · rw [z, r2]; exact ⟨i, by omega, hM⟩
              · rw [r3 j z]; exact hLR (j - 1) (by omega)
            · by_cases y : i' = i
              · rw [y]; exact ⟨p, by omega, by rw [r2]; exact hM⟩
              · obtain ⟨j, hj, g⟩ := hcov i' (by omega)
                by_cases q : j < p
                · exact ⟨j, by omega, by rw [r1 j q]; exact g⟩
                · exact ⟨j + 1, by omega, by rw [r3 (j + 1) (by omega)]; exact g⟩
        | succ z2 ih2 =>
          intro k h' y3 f hk hf hL k68 gf
          have k0 : h'[0]? = some (sO cap rc) := hf.at (by omega) h0
          have k66 := hf.at (by omega) h66
          have k67 := hf.at (by omega) h67
          have k39 := hf.at (by omega) h39
          have k41 := hf.at (by omega) h41
          refine r_il G (pn := 16) rfl rfl rfl ?_
          refine r_ic G (pn := 17) rfl rfl  ?_
          refine r_if2 G (pn := 20) rfl rfl (fun c17 => ?_) (fun c17 => ?_)
          · exact absurd ((nI_leI (a := 5) (by omega) (by omega)).mp c17) (by omega)
          refine r_ra G (pn := 21) rfl rfl rfl ?_
          refine r_get G (pn := 24) rfl rfl k0 rfl ?_
          refine r_il G (pn := 25) rfl rfl rfl ?_
          refine r_il G (pn := 26) rfl rfl rfl ?_
          have eb := e16_b gi2
          refine r_inv3 G (pn := 29) rfl rfl k66 (Nat.le_of_ble_eq_true rfl) (Nat.le_of_ble_eq_true rfl) (Nat.le_of_ble_eq_true rfl) (sp_100 (g := 66) (n := rn) (by omega) k66 k67 (by omega) (show k < 5 by omega) gi1 (by omega) ?_)
          rw [e16_dig gi2 (by omega)]
          have put : ∀ (v : Int32) (y3 : Option Value), v = nI (mu (R i k)) - 1 → am_Go (am_KA lx e) (am_fetch cd_24) Q 53 [some (.ref 0), some (.int (nI i)), some (.int (nI k)), y3] [.int v, .int (nI k), .ref 68] h' 0 0 := by
            intro v y3 hv
            refine r_iastN G (pn := 54) rfl rfl k68 (by omega) (by omega) ?_
            refine r_inc G (pn := 57) rfl rfl rfl (Nat.le_of_ble_eq_true rfl) ?_
            refine r_goto G rfl ?_
            rw [nI_1]
            refine ih2 (k + 1) _ _ _ (by omega) (hf.put (by omega)) (hL.fr (P := fun i => i = 68) (am_fr.rf.put rfl) ⟨by omega, by omega⟩) (am_eq k68) (fun q hq => ?_)
            by_cases y : q = k
            · rw [y, pk_us, hv]
            · rw [pk_un (by omega)]; exact gf q (by omega)
          have hdk := hdig i (by omega) k (by omega)
          show am_Go (am_KA lx e) (am_fetch cd_24) Q 29 [some (.ref 0), some (.int (nI i)), some (.int (nI k)), y3] [.int (nI (R i k) - 1)] h' 0 0
          refine r_is G (pn := 30) rfl rfl (Nat.le_of_ble_eq_true rfl) ?_
          refine r_ra G (pn := 31) rfl rfl rfl ?_
          refine r_get G (pn := 34) rfl rfl k0 rfl ?_
          refine r_il G (pn := 35) rfl rfl rfl ?_
          refine r_il G (pn := 36) rfl rfl rfl ?_
          refine r_ic G (pn := 37) rfl rfl  ?_
          by_cases zr : R i k = 0
          · rw [zr]
            refine r_if2 G (pn := 40) rfl rfl (fun c37 => ?_) (fun c37 => ?_)
            · exact absurd rfl c37
            refine r_ic G (pn := 41) rfl rfl  ?_
            refine r_goto G rfl ?_
            exact put _ _ (by rw [zr, m0]; rfl)
          · obtain ⟨q, hq⟩ : ∃ q, R i k = q + 1 := ⟨R i k - 1, by omega⟩
            rw [hq, nI_pred]
            refine r_if2 G (pn := 40) rfl rfl (fun c37 => ?_) (fun c37 => ?_)
            rotate_left
            · exact absurd (show nI q = -1 from Classical.byContradiction c37) (fun z => by have := nI_pos (n := q) (by omega); rw [z] at this; exact absurd (by decide) this)
            refine r_ra G (pn := 45) rfl rfl rfl ?_
            refine r_get G (pn := 48) rfl rfl k0 rfl ?_
            refine r_get G (pn := 51) rfl rfl k39 rfl ?_
            refine r_il G (pn := 52) rfl rfl rfl ?_
            refine r_ialdN G (pn := 53) rfl rfl k41 (by omega) (by omega) ?_
            refine put _ _ ?_
            rw [hq, m1 q (by omega), nI_pred]
            exact (hfr q (by omega)).1
      obtain ⟨f, k68⟩ := k68
      exact inner 5 0 h' _ f (by omega) hf hL k68 (fun q hq => absurd hq (Nat.not_lt_zero q))
  exact lp rn 0 h _ _ ln L (by omega) am_fr.rf hL hs hLR (fun i hi => absurd hi (Nat.not_lt_zero i)) ⟨_, h68⟩
end
