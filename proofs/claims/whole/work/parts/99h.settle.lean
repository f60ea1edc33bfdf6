/-- what a number of the model becomes -/
def muM (n0 u : Nat) (B : Nat → Nat) (x : Nat) : Nat := if x ≤ 12 then x else rk n0 u B (n0 + (x - 13)) + 1
def seP (i : Nat) : Prop := i = 81 ∨ i = 83 ∨ i = 89 ∨ i = 92
section
variable {lx : am_Lx} {d : Nat} {h : am_H} {Q : am_Q} {m : Nat → Int32}
set_option maxRecDepth 20000 in
theorem sp_64 (hd : 1 ≤ d) {n0 u rn : Nat} {B B2 : Nat → Nat} {R : Nat → Nat → Nat} (hM : h[81]? = some (mO m)) (hS : MsI h) (hT : TbM h m n0 B) (hF : FrI h m n0 u B) (hB : ∀ i, i < u → B i < 2 ^ 48) (inj : ∀ i j, i < u → j < u → B i = B j → i = j) (hSr : Srw n0 u B B2 (rk n0 u B)) (hW : MwI h m rn R) (hdig : ∀ i, i < rn → ∀ k, k < 5 → R i k ≤ 12 ∨ R i k < 13 + (u - n0))
    (hq : ∀ h' m', am_fr seP h h' → (∀ i, i ≠ 3 → m' i = m i) → h'[81]? = some (mO m') → MsI h' → TbM h' m' u B2 → MwI h' m' rn (fun i k => muM n0 u B (R i k)) → Q none h') : am_KA lx d 64 [.ref 81] h Q := by
  obtain ⟨m3, ky0, h83, gk⟩ := id hT
  obtain ⟨m15, un, u12, fr, h91, gf⟩ := id hF
  obtain ⟨m12, rn40, fw, h89, gw⟩ := id hW
  obtain ⟨f92, h92⟩ := hS 92 (by decide)
  have h92 : h[92]? = some (aI 13 f92) := h92
  have rkl : ∀ q, n0 + q < u → n0 ≤ rk n0 u B (n0 + q) ∧ rk n0 u B (n0 + q) < u := fun q hq => ⟨by unfold rk; rw [if_neg (by omega)]; omega, rk_lt hq⟩
  have mul : ∀ x, (x ≤ 12 ∨ x < 13 + (u - n0)) → muM n0 u B x ≤ 12 := by
    intro x hx
    unfold muM
    split
    · assumption
    · have := (rkl (x - 13) (by omega)).2
      omega
  obtain ⟨e, rfl⟩ : ∃ e, d = e + 1 := ⟨d - 1, by omega⟩
  have G : am_GK (am_KA lx e) cd_64 := ⟨am_KA_m lx e, cm_64⟩
  refine am_KA_in (by decide) (Nat.le_of_ble_eq_true rfl) ?_
  show am_Go (am_KA lx e) (am_fetch cd_64) Q 0 [some (.ref 81), none, none] [] h 0 0
  refine r_ic G (pn := 1) rfl rfl  ?_
  refine r_is G (pn := 2) rfl rfl (Nat.le_of_ble_eq_true rfl) ?_
  -- the rows
  have lp3 : ∀ (z k : Nat) (h' : am_H) (m' : Nat → Int32) (f pl : Nat → Int32) (y2 : Option Value), k + z = 5 * rn → am_fr seP h h' → (∀ i, i ≠ 3 → m' i = m i) → h'[81]? = some (mO m') → MsI h' → TbM h' m' u B2 → h'[92]? = some (aI 13 pl) → (∀ q, n0 + q < u → pl q = nI (rk n0 u B (n0 + q))) → h'[89]? = some (aI 205 f) → (∀ i, i < rn → ∀ c, c < 5 → f (5 * i + c) = nI (if 5 * i + c < k then muM n0 u B (R i c) else R i c) - 1) → am_Go (am_KA lx e) (am_fetch cd_64) Q 129 [some (.ref 81), some (.int (nI k)), y2] [] h' 0 0 := by
    intro z
    induction z with
    | zero =>
      intro k h' m' f pl y2 hk hf hm kM Ms' T' k92 gp k89 gr
      obtain rfl : k = 5 * rn := by omega
      have n12 : m' 12 = nI rn := (hm 12 (by omega)).trans m12
      refine r_il G (pn := 130) rfl rfl rfl ?_
      refine r_ic G (pn := 131) rfl rfl  ?_
      refine r_ra G (pn := 132) rfl rfl rfl ?_
      refine r_get G (pn := 135) rfl rfl (by first | assumption | (repeat (first | assumption | exact am_eq (by first | assumption | exact am_eq (by assumption) | exact am_ne (by first | decide | omega) (by assumption)) | refine am_ne (by first | decide | omega) ?_))) rfl ?_
      rw [n12]
      refine r_ib G (pn := 136) rfl rfl  ?_
      rw [nI_5l]
      refine r_if2 G (pn := 139) rfl rfl (fun c136 => ?_) (fun c136 => ?_)
      rotate_left
      · exact absurd (Int32.le_refl _) c136
      refine r_vret G rfl (hq h' m' hf hm kM Ms' T' ⟨n12, rn40, f, k89, fun i hi c hc => ?_⟩)
      have := gr i hi c hc
      rw [if_pos (by omega)] at this
      refine ⟨this, ?_⟩
      show muM n0 u B (R i c) < 26
      have := mul _ (hdig i hi c hc)
      omega
    | succ z ih =>
      intro k h' m' f pl y2 hk hf hm kM Ms' T' k92 gp k89 gr
      have n12 : m' 12 = nI rn := (hm 12 (by omega)).trans m12
      obtain ⟨i, c, hi, hc, ek⟩ : ∃ i c, i < rn ∧ c < 5 ∧ k = 5 * i + c := ⟨k / 5, k % 5, by omega, by omega, by omega⟩
      have fk := gr i hi c hc
      rw [if_neg (by omega), ← ek] at fk
      have dk := hdig i hi c hc
      have bk := (gw i hi c hc).2
      refine r_il G (pn := 130) rfl rfl rfl ?_
      refine r_ic G (pn := 131) rfl rfl  ?_
      refine r_ra G (pn := 132) rfl rfl rfl ?_
      refine r_get G (pn := 135) rfl rfl (by first | assumption | (repeat (first | assumption | exact am_eq (by first | assumption | exact am_eq (by assumption) | exact am_ne (by first | decide | omega) (by assumption)) | refine am_ne (by first | decide | omega) ?_))) rfl ?_
      rw [n12]
      refine r_ib G (pn := 136) rfl rfl  ?_
      rw [nI_5l]
      refine r_if2 G (pn := 139) rfl rfl (fun c136 => ?_) (fun c136 => ?_)
      · exact absurd ((nI_leI (by omega) (by omega)).mp c136) (by omega)
      have wr : ∀ v : Int32, v = nI (muM n0 u B (R i c)) - 1 → am_Go (am_KA lx e) (am_fetch cd_64) Q 178 [some (.ref 81), some (.int (nI k)), y2] [.int v, .int (nI k), .ref 89] h' 0 0 := by
        intro v hv
        refine r_iastN G (pn := 179) rfl rfl k89 (by omega) (by omega) ?_
        refine r_inc G (pn := 182) rfl rfl rfl (Nat.le_of_ble_eq_true rfl) ?_
        refine r_goto G rfl ?_
        rw [nI_1]
        have q9 : am_fr (fun i => i = 89) h' (h'.set 89 (aI 205 (upd f k v))) := am_fr.rf.put rfl
        refine ih (k + 1) (h'.set 89 (aI 205 (upd f k v))) m' (upd f k v) pl _ (by omega) (hf.put (by unfold seP; omega)) hm (am_ne (by decide) kM) (Ms'.fr q9 (fun j hj _ => by subst hj; exact ⟨_, am_eq k89⟩)) (T'.fr q9 (by omega) rfl) (am_ne (by decide) k92) gp (am_eq k89) (fun i' hi' c' hc' => ?_)
        by_cases y : 5 * i' + c' = k
        · rw [y, pk_us, if_pos (by omega), hv, show i' = i by omega, show c' = c by omega]
        · rw [pk_un y]
          have := gr i' hi' c' hc'
          by_cases w : 5 * i' + c' < k
          · rw [if_pos w] at this
            rw [if_pos (by omega)]
            exact this
          · rw [if_neg w] at this
            rw [if_neg (by omega)]
            exact this
      refine r_ra G (pn := 140) rfl rfl rfl ?_
      refine r_get G (pn := 143) rfl rfl (by first | assumption | (repeat (first | assumption | exact am_eq (by first | assumption | exact am_eq (by assumption) | exact am_ne (by first | decide | omega) (by assumption)) | refine am_ne (by first | decide | omega) ?_))) rfl ?_
      refine r_il G (pn := 144) rfl rfl rfl ?_
      refine r_ra G (pn := 145) rfl rfl rfl ?_
      refine r_get G (pn := 148) rfl rfl (by first | assumption | (repeat (first | assumption | exact am_eq (by first | assumption | exact am_eq (by assumption) | exact am_ne (by first | decide | omega) (by assumption)) | refine am_ne (by first | decide | omega) ?_))) rfl ?_
      refine r_il G (pn := 149) rfl rfl rfl ?_
      refine r_ialdN G (pn := 150) rfl rfl k89 (by omega) (by omega) ?_
      rw [fk]
      refine r_ic G (pn := 152) rfl rfl  ?_
      refine r_if2 G (pn := 155) rfl rfl (fun c152 => ?_) (fun c152 => ?_)
      · have c152 : nI (R i c) - 1 ≤ nI 12 - 1 := c152
        have hle := (m1_le (by omega) (by omega)).mp c152
        refine r_ra G (pn := 173) rfl rfl rfl ?_
        refine r_get G (pn := 176) rfl rfl (by first | assumption | (repeat (first | assumption | exact am_eq (by first | assumption | exact am_eq (by assumption) | exact am_ne (by first | decide | omega) (by assumption)) | refine am_ne (by first | decide | omega) ?_))) rfl ?_
        refine r_il G (pn := 177) rfl rfl rfl ?_
        refine r_ialdN G (pn := 178) rfl rfl k89 (by omega) (by omega) ?_
        rw [fk]
        refine wr _ ?_
        unfold muM
        rw [if_pos hle]
      · have hgt : 12 < R i c := Nat.not_le.mp (fun y => c152 (show nI (R i c) - 1 ≤ nI 12 - 1 from (m1_le (by omega) (by omega)).mpr y))
        refine r_ra G (pn := 156) rfl rfl rfl ?_
        refine r_get G (pn := 159) rfl rfl (by first | assumption | (repeat (first | assumption | exact am_eq (by first | assumption | exact am_eq (by assumption) | exact am_ne (by first | decide | omega) (by assumption)) | refine am_ne (by first | decide | omega) ?_))) rfl ?_
        refine r_ra G (pn := 160) rfl rfl rfl ?_
        refine r_get G (pn := 163) rfl rfl (by first | assumption | (repeat (first | assumption | exact am_eq (by first | assumption | exact am_eq (by assumption) | exact am_ne (by first | decide | omega) (by assumption)) | refine am_ne (by first | decide | omega) ?_))) rfl ?_
        refine r_il G (pn := 164) rfl rfl rfl ?_
        refine r_ialdN G (pn := 165) rfl rfl k89 (by omega) (by omega) ?_
        rw [fk]
        have e1 : nI (R i c) - 1 = nI (12 + (R i c - 13)) := by
          obtain ⟨p, hp⟩ : ∃ p, R i c = 13 + p := ⟨R i c - 13, by omega⟩
          rw [hp, show nI (13 + p) = nI (12 + p + 1) by rw [show 13 + p = 12 + p + 1 by omega], nI_pred, Nat.add_sub_cancel_left]
        rw [e1]
        refine r_ic G (pn := 167) rfl rfl  ?_
        refine r_ib G (pn := 168) rfl rfl  ?_
        rw [show nI (12 + (R i c - 13)) - 12 = nI (R i c - 13) from (pk_sub (a := 12 + (R i c - 13)) (b := 12) (by omega)).trans (by congr 1; omega)]
        refine r_ialdN G (pn := 169) rfl rfl k92 (by omega) (by omega) ?_
        refine r_goto G rfl ?_
        refine wr _ ?_
        rw [gp _ (by omega)]
        unfold muM
        rw [if_neg (by omega), nI_pred]
  -- the keys
  have lp2 : ∀ (z k : Nat) (h' : am_H) (ky : Nat → Int64) (pl : Nat → Int32) (y2 : Option Value), k + z = u - n0 → am_fr seP h h' → h'[81]? = some (mO m) → MsI h' → h'[92]? = some (aI 13 pl) → (∀ q, n0 + q < u → pl q = nI (rk n0 u B (n0 + q))) → h'[89]? = some (aI 205 fw) → h'[83]? = some (aL 12 ky) → (∀ i, i < n0 → ky i = lN (B i)) → (∀ q, q < k → ky (rk n0 u B (n0 + q)) = lN (B (n0 + q))) → am_Go (am_KA lx e) (am_fetch cd_64) Q 83 [some (.ref 81), some (.int (nI k)), y2] [] h' 0 0 := by
    intro z
    induction z with
    | zero =>
      intro k h' ky pl y2 hk hf kM Ms' k92 gp k89 k83 g1 g2
      obtain rfl : k = u - n0 := by omega
      refine r_il G (pn := 84) rfl rfl rfl ?_
      refine r_ra G (pn := 85) rfl rfl rfl ?_
      refine r_get G (pn := 88) rfl rfl (by first | assumption | (repeat (first | assumption | exact am_eq (by first | assumption | exact am_eq (by assumption) | exact am_ne (by first | decide | omega) (by assumption)) | refine am_ne (by first | decide | omega) ?_))) rfl ?_
      rw [m15]
      refine r_if2 G (pn := 91) rfl rfl (fun c88 => ?_) (fun c88 => ?_)
      rotate_left
      · exact absurd (Int32.le_refl _) c88
      refine r_ra G (pn := 115) rfl rfl rfl ?_
      refine r_ra G (pn := 116) rfl rfl rfl ?_
      refine r_get G (pn := 119) rfl rfl (by first | assumption | (repeat (first | assumption | exact am_eq (by first | assumption | exact am_eq (by assumption) | exact am_ne (by first | decide | omega) (by assumption)) | refine am_ne (by first | decide | omega) ?_))) rfl ?_
      refine r_ra G (pn := 120) rfl rfl rfl ?_
      refine r_get G (pn := 123) rfl rfl (by first | assumption | (repeat (first | assumption | exact am_eq (by first | assumption | exact am_eq (by assumption) | exact am_ne (by first | decide | omega) (by assumption)) | refine am_ne (by first | decide | omega) ?_))) rfl ?_
      rw [m3, m15]
      refine r_ib G (pn := 124) rfl rfl  ?_
      rw [nI_add, show n0 + (u - n0) = u by omega]
      refine r_puti G (pn := 127) rfl rfl kM (Nat.le_of_ble_eq_true rfl) ?_
      refine r_ic G (pn := 128) rfl rfl  ?_
      refine r_is G (pn := 129) rfl rfl (Nat.le_of_ble_eq_true rfl) ?_
      have q9 : am_fr (fun i => i = 81) h' (h'.set 81 (mO (upd m 3 (nI u)))) := am_fr.rf.put rfl
      refine lp3 (5 * rn) 0 (h'.set 81 (mO (upd m 3 (nI u)))) (upd m 3 (nI u)) fw pl _ (by omega) (hf.put (by unfold seP; omega)) (fun i hi => pk_un hi) (am_eq kM) (Ms'.fr q9 (fun j hj hz => by subst hj; exact absurd rfl hz)) ⟨pk_us, ky, am_ne (by decide) k83, fun i hi => ?_⟩ (am_ne (by decide) k92) gp (am_ne (by decide) k89) (fun i hi c hc => by rw [if_neg (Nat.not_lt_zero _)]; exact (gw i hi c hc).1)
      obtain ⟨p, p1, p2⟩ := hSr.2.2.2 i hi
      have e2 := (hSr.2.2.1 p p1).2
      rw [p2] at e2
      rw [e2]
      refine ⟨?_, hB p p1⟩
      by_cases y : p < n0
      · have := (hSr.1 p y).2
        rw [← p2, this]
        exact g1 p y
      · have := g2 (p - n0) (by omega)
        rw [show n0 + (p - n0) = p by omega, p2] at this
        exact this
    | succ z ih =>
      intro k h' ky pl y2 hk hf kM Ms' k92 gp k89 k83 g1 g2
      have k91 := hf.at (by unfold seP; omega) h91
      have rk1 := rkl k (by omega)
      refine r_il G (pn := 84) rfl rfl rfl ?_
      refine r_ra G (pn := 85) rfl rfl rfl ?_
      refine r_get G (pn := 88) rfl rfl (by first | assumption | (repeat (first | assumption | exact am_eq (by first | assumption | exact am_eq (by assumption) | exact am_ne (by first | decide | omega) (by assumption)) | refine am_ne (by first | decide | omega) ?_))) rfl ?_
      rw [m15]
      refine r_if2 G (pn := 91) rfl rfl (fun c88 => ?_) (fun c88 => ?_)
      · exact absurd ((nI_leI (by omega) (by omega)).mp c88) (by omega)
      refine r_ra G (pn := 92) rfl rfl rfl ?_
      refine r_get G (pn := 95) rfl rfl (by first | assumption | (repeat (first | assumption | exact am_eq (by first | assumption | exact am_eq (by assumption) | exact am_ne (by first | decide | omega) (by assumption)) | refine am_ne (by first | decide | omega) ?_))) rfl ?_
      refine r_ra G (pn := 96) rfl rfl rfl ?_
      refine r_get G (pn := 99) rfl rfl (by first | assumption | (repeat (first | assumption | exact am_eq (by first | assumption | exact am_eq (by assumption) | exact am_ne (by first | decide | omega) (by assumption)) | refine am_ne (by first | decide | omega) ?_))) rfl ?_
      refine r_il G (pn := 100) rfl rfl rfl ?_
      refine r_ialdN G (pn := 101) rfl rfl k92 (by omega) (by omega) ?_
      rw [gp k (by omega)]
      refine r_ra G (pn := 102) rfl rfl rfl ?_
      refine r_get G (pn := 105) rfl rfl (by first | assumption | (repeat (first | assumption | exact am_eq (by first | assumption | exact am_eq (by assumption) | exact am_ne (by first | decide | omega) (by assumption)) | refine am_ne (by first | decide | omega) ?_))) rfl ?_
      refine r_il G (pn := 106) rfl rfl rfl ?_
      refine r_laldN G (pn := 107) rfl rfl k91 (by omega) (by omega) ?_
      refine r_lastN G (pn := 108) rfl rfl k83 (by omega) (by omega) ?_
      refine r_inc G (pn := 111) rfl rfl rfl (Nat.le_of_ble_eq_true rfl) ?_
      refine r_goto G rfl ?_
      rw [nI_1]
      have q9 : am_fr (fun i => i = 83) h' (h'.set 83 (aL 12 (vp_updL ky (rk n0 u B (n0 + k)) (fr k)))) := am_fr.rf.put rfl
      refine ih (k + 1) _ (vp_updL ky (rk n0 u B (n0 + k)) (fr k)) pl _ (by omega) (hf.put (by unfold seP; omega)) (am_ne (by decide) kM) (Ms'.fr q9 (fun j hj hz => by subst hj; exact absurd rfl hz)) (am_ne (by decide) k92) gp (am_ne (by decide) k89) (am_eq k83) (fun i hi => by rw [pk_uLn (by omega)]; exact g1 i hi) (fun q hq => ?_)
      by_cases y : q = k
      · rw [y, pk_uLs']; exact (gf k (by omega)).1
      · rw [pk_uLn (fun e => y (by have := rk_inj inj (n0 + q) (n0 + k) (by omega) (by omega) e; omega))]
        exact g2 q (by omega)
  -- the places
  have lp1 : ∀ (z k : Nat) (h' : am_H) (pl : Nat → Int32) (y2 : Option Value), k + z = u - n0 → am_fr (fun i => i = 92) h h' → h'[92]? = some (aI 13 pl) → (∀ q, q < k → pl q = nI (rk n0 u B (n0 + q))) → am_Go (am_KA lx e) (am_fetch cd_64) Q 2 [some (.ref 81), some (.int (nI k)), y2] [] h' 0 0 := by
    intro z
    induction z with
    | zero =>
      intro k h' pl y2 hk hf k92 gp
      obtain rfl : k = u - n0 := by omega
      have kM := hf.at (by omega) hM
      refine r_il G (pn := 3) rfl rfl rfl ?_
      refine r_ra G (pn := 4) rfl rfl rfl ?_
      refine r_get G (pn := 7) rfl rfl (by first | assumption | (repeat (first | assumption | exact am_eq (by first | assumption | exact am_eq (by assumption) | exact am_ne (by first | decide | omega) (by assumption)) | refine am_ne (by first | decide | omega) ?_))) rfl ?_
      rw [m15]
      refine r_if2 G (pn := 10) rfl rfl (fun c7 => ?_) (fun c7 => ?_)
      rotate_left
      · exact absurd (Int32.le_refl _) c7
      refine r_ic G (pn := 82) rfl rfl  ?_
      refine r_is G (pn := 83) rfl rfl (Nat.le_of_ble_eq_true rfl) ?_
      exact lp2 (u - n0) 0 h' ky0 pl _ (by omega) (hf.wk (fun i hi => by unfold seP; omega)) kM (hS.fr hf (fun i hi _ => by subst hi; exact ⟨pl, k92⟩)) k92 (fun q hq => gp q (by omega)) (hf.at (by omega) h89) (hf.at (by omega) h83) (fun i hi => (gk i hi).1) (fun q hq => absurd hq (Nat.not_lt_zero q))
    | succ z ih =>
      intro k h' pl y2 hk hf k92 gp
      have kM := hf.at (by omega) hM
      have k91 := hf.at (by omega) h91
      refine r_il G (pn := 3) rfl rfl rfl ?_
      refine r_ra G (pn := 4) rfl rfl rfl ?_
      refine r_get G (pn := 7) rfl rfl (by first | assumption | (repeat (first | assumption | exact am_eq (by first | assumption | exact am_eq (by assumption) | exact am_ne (by first | decide | omega) (by assumption)) | refine am_ne (by first | decide | omega) ?_))) rfl ?_
      rw [m15]
      refine r_if2 G (pn := 10) rfl rfl (fun c7 => ?_) (fun c7 => ?_)
      · exact absurd ((nI_leI (by omega) (by omega)).mp c7) (by omega)
      refine r_ra G (pn := 11) rfl rfl rfl ?_
      refine r_get G (pn := 14) rfl rfl (by first | assumption | (repeat (first | assumption | exact am_eq (by first | assumption | exact am_eq (by assumption) | exact am_ne (by first | decide | omega) (by assumption)) | refine am_ne (by first | decide | omega) ?_))) rfl ?_
      refine r_il G (pn := 15) rfl rfl rfl ?_
      refine r_ra G (pn := 16) rfl rfl rfl ?_
      refine r_get G (pn := 19) rfl rfl (by first | assumption | (repeat (first | assumption | exact am_eq (by first | assumption | exact am_eq (by assumption) | exact am_ne (by first | decide | omega) (by assumption)) | refine am_ne (by first | decide | omega) ?_))) rfl ?_
      rw [m3]
      refine r_iastN G (pn := 20) rfl rfl k92 (by omega) (by omega) ?_
      refine r_ic G (pn := 21) rfl rfl  ?_
      refine r_is G (pn := 22) rfl rfl (Nat.le_of_ble_eq_true rfl) ?_
      have inner : ∀ (z2 j : Nat) (h2 : am_H) (pl : Nat → Int32), j + z2 = u - n0 → am_fr (fun i => i = 92) h h2 → h2[92]? = some (aI 13 pl) → (∀ q, q < k → pl q = nI (rk n0 u B (n0 + q))) → pl k = nI (n0 + cn (fun x => decide (x < B (n0 + k))) B n0 j) → am_Go (am_KA lx e) (am_fetch cd_64) Q 22 [some (.ref 81), some (.int (nI k)), some (.int (nI j))] [] h2 0 0 := by
        intro z2
        induction z2 with
        | zero =>
          intro j h2 pl hj hf2 l92 gp gk
          obtain rfl : j = u - n0 := by omega
          have lM := hf2.at (by omega) hM
          refine r_il G (pn := 23) rfl rfl rfl ?_
          refine r_ra G (pn := 24) rfl rfl rfl ?_
          refine r_get G (pn := 27) rfl rfl (by first | assumption | (repeat (first | assumption | exact am_eq (by first | assumption | exact am_eq (by assumption) | exact am_ne (by first | decide | omega) (by assumption)) | refine am_ne (by first | decide | omega) ?_))) rfl ?_
          rw [m15]
          refine r_if2 G (pn := 30) rfl rfl (fun c27 => ?_) (fun c27 => ?_)
          rotate_left
          · exact absurd (Int32.le_refl _) c27
          refine r_inc G (pn := 78) rfl rfl rfl (Nat.le_of_ble_eq_true rfl) ?_
          refine r_goto G rfl ?_
          rw [nI_1]
          refine ih (k + 1) h2 pl _ (by omega) hf2 l92 (fun q hq => ?_)
          by_cases y : q = k
          · rw [y, gk]
            unfold rk
            rw [if_neg (by omega)]
          · exact gp q (by omega)
        | succ z2 ih2 =>
          intro j h2 pl hj hf2 l92 gp gk
          have lM := hf2.at (by omega) hM
          have l91 := hf2.at (by omega) h91
          have fj := gf j (by omega)
          have fk := gf k (by omega)
          refine r_il G (pn := 23) rfl rfl rfl ?_
          refine r_ra G (pn := 24) rfl rfl rfl ?_
          refine r_get G (pn := 27) rfl rfl (by first | assumption | (repeat (first | assumption | exact am_eq (by first | assumption | exact am_eq (by assumption) | exact am_ne (by first | decide | omega) (by assumption)) | refine am_ne (by first | decide | omega) ?_))) rfl ?_
          rw [m15]
          refine r_if2 G (pn := 30) rfl rfl (fun c27 => ?_) (fun c27 => ?_)
          · exact absurd ((nI_leI (by omega) (by omega)).mp c27) (by omega)
          refine r_ra G (pn := 31) rfl rfl rfl ?_
          refine r_get G (pn := 34) rfl rfl (by first | assumption | (repeat (first | assumption | exact am_eq (by first | assumption | exact am_eq (by assumption) | exact am_ne (by first | decide | omega) (by assumption)) | refine am_ne (by first | decide | omega) ?_))) rfl ?_
          refine r_il G (pn := 35) rfl rfl rfl ?_
          refine r_ra G (pn := 36) rfl rfl rfl ?_
          refine r_get G (pn := 39) rfl rfl (by first | assumption | (repeat (first | assumption | exact am_eq (by first | assumption | exact am_eq (by assumption) | exact am_ne (by first | decide | omega) (by assumption)) | refine am_ne (by first | decide | omega) ?_))) rfl ?_
          refine r_il G (pn := 40) rfl rfl rfl ?_
          refine r_laldN G (pn := 41) rfl rfl l91 (by omega) (by omega) ?_
          refine r_ra G (pn := 42) rfl rfl rfl ?_
          refine r_get G (pn := 45) rfl rfl (by first | assumption | (repeat (first | assumption | exact am_eq (by first | assumption | exact am_eq (by assumption) | exact am_ne (by first | decide | omega) (by assumption)) | refine am_ne (by first | decide | omega) ?_))) rfl ?_
          refine r_il G (pn := 46) rfl rfl rfl ?_
          refine r_laldN G (pn := 47) rfl rfl l91 (by omega) (by omega) ?_
          refine r_lcmp G (pn := 48) rfl rfl  ?_
          rw [fj.1, fk.1]
          have cb := cn_le (P := fun x => decide (x < B (n0 + k))) (f := B) (a := n0) (k := j)
          have wr : ∀ v : Nat, v = n0 + cn (fun x => decide (x < B (n0 + k))) B n0 (j + 1) → am_Go (am_KA lx e) (am_fetch cd_64) Q 68 [some (.ref 81), some (.int (nI k)), some (.int (nI j))] [.int (nI v), .int (nI k), .ref 92] h2 0 0 := by
            intro v hv
            refine r_iastN G (pn := 69) rfl rfl l92 (by omega) (by omega) ?_
            refine r_inc G (pn := 72) rfl rfl rfl (Nat.le_of_ble_eq_true rfl) ?_
            refine r_goto G rfl ?_
            rw [nI_1]
            refine ih2 (j + 1) _ (upd pl k (nI v)) (by omega) (hf2.put rfl) (am_eq l92) (fun q hq => by rw [pk_un (by omega)]; exact gp q hq) (by rw [pk_us, hv])
          refine r_if1 G (pn := 51) rfl rfl (fun c48 => ?_) (fun c48 => ?_)
          · have hge := (lN_leI (by omega) (by omega)).mp ((lg_cmp_ge _ _).mp c48)
            refine r_ra G (pn := 63) rfl rfl rfl ?_
            refine r_get G (pn := 66) rfl rfl (by first | assumption | (repeat (first | assumption | exact am_eq (by first | assumption | exact am_eq (by assumption) | exact am_ne (by first | decide | omega) (by assumption)) | refine am_ne (by first | decide | omega) ?_))) rfl ?_
            refine r_il G (pn := 67) rfl rfl rfl ?_
            refine r_ialdN G (pn := 68) rfl rfl l92 (by omega) (by omega) ?_
            rw [gk]
            refine wr _ ?_
            show _ = n0 + (cn (fun x => decide (x < B (n0 + k))) B n0 j + (if decide (B (n0 + j) < B (n0 + k)) = true then 1 else 0))
            rw [if_neg (fun y => by have := of_decide_eq_true y; omega)]
            omega
          · have hlt : B (n0 + j) < B (n0 + k) := Nat.not_le.mp (fun y => c48 ((lg_cmp_ge _ _).mpr ((lN_leI (by omega) (by omega)).mpr y)))
            refine r_ra G (pn := 52) rfl rfl rfl ?_
            refine r_get G (pn := 55) rfl rfl (by first | assumption | (repeat (first | assumption | exact am_eq (by first | assumption | exact am_eq (by assumption) | exact am_ne (by first | decide | omega) (by assumption)) | refine am_ne (by first | decide | omega) ?_))) rfl ?_
            refine r_il G (pn := 56) rfl rfl rfl ?_
            refine r_ialdN G (pn := 57) rfl rfl l92 (by omega) (by omega) ?_
            rw [gk]
            refine r_ic G (pn := 58) rfl rfl  ?_
            refine r_ib G (pn := 59) rfl rfl  ?_
            refine r_goto G rfl ?_
            rw [nI_1]
            refine wr _ ?_
            show _ = n0 + (cn (fun x => decide (x < B (n0 + k))) B n0 j + (if decide (B (n0 + j) < B (n0 + k)) = true then 1 else 0))
            rw [if_pos (decide_eq_true hlt)]
            omega
      exact inner (u - n0) 0 _ (upd pl k (nI n0)) (by omega) (hf.put rfl) (am_eq k92) (fun q hq => by rw [pk_un (by omega)]; exact gp q hq) (by rw [pk_us]; rfl)
  exact lp1 (u - n0) 0 h f92 _ (by omega) am_fr.rf h92 (fun q hq => absurd hq (Nat.not_lt_zero q))
theorem sp_65 (hd : 1 ≤ d) {rn a b : Nat} {f : Nat → Int32} {R : Nat → Nat → Nat} (hM : h[81]? = some (mO m)) (rn40 : rn ≤ 40) (h89 : h[89]? = some (aI 205 f)) (gw : ∀ i, i < rn → ∀ k, k < 5 → f (5 * i + k) = nI (R i k) - 1 ∧ R i k < 16) (ha : a < rn) (hb : b < rn) (hno : ¬ e16 (R a) 5 < e16 (R b) 5 → Q (some (.int 0)) h) (hyes : e16 (R a) 5 < e16 (R b) 5 → Q (some (.int 1)) h) : am_KA lx d 65 [.ref 81, .int (nI a), .int (nI b)] h Q := by
  obtain ⟨e, rfl⟩ : ∃ e, d = e + 1 := ⟨d - 1, by omega⟩
  have G : am_GK (am_KA lx e) cd_65 := ⟨am_KA_m lx e, cm_65⟩
  refine am_KA_in (by decide) (Nat.le_of_ble_eq_true rfl) ?_
  show am_Go (am_KA lx e) (am_fetch cd_65) Q 0 [some (.ref 81), some (.int (nI a)), some (.int (nI b)), none] [] h 0 0
  refine r_ic G (pn := 1) rfl rfl  ?_
  refine r_is G (pn := 2) rfl rfl (Nat.le_of_ble_eq_true rfl) ?_
  have fin : ∀ k, k < 5 → (∀ q, q < k → R a q = R b q) → (k = 4 ∨ R a k ≠ R b k) → am_Go (am_KA lx e) (am_fetch cd_65) Q 36 [some (.ref 81), some (.int (nI a)), some (.int (nI b)), some (.int (nI k))] [] h 0 0 := by
    intro k hk he hd
    obtain ⟨a1, a2⟩ := gw a ha k hk
    obtain ⟨b1, b2⟩ := gw b hb k hk
    have key : e16 (R a) 5 < e16 (R b) 5 ↔ R a k < R b k := by
      have p0 := (gw a ha 0 (by omega)).2; have p1 := (gw a ha 1 (by omega)).2; have p2 := (gw a ha 2 (by omega)).2; have p3 := (gw a ha 3 (by omega)).2; have p4 := (gw a ha 4 (by omega)).2
      have r0 := (gw b hb 0 (by omega)).2; have r1 := (gw b hb 1 (by omega)).2; have r2 := (gw b hb 2 (by omega)).2; have r3 := (gw b hb 3 (by omega)).2; have r4 := (gw b hb 4 (by omega)).2
      rw [e16_5, e16_5]
      rcases (show k = 0 ∨ k = 1 ∨ k = 2 ∨ k = 3 ∨ k = 4 by omega) with z | z | z | z | z
      · subst z; omega
      · subst z; have := he 0 (by omega); omega
      · subst z; have := he 0 (by omega); have := he 1 (by omega); omega
      · subst z; have := he 0 (by omega); have := he 1 (by omega); have := he 2 (by omega); omega
      · subst z; have := he 0 (by omega); have := he 1 (by omega); have := he 2 (by omega); have := he 3 (by omega); omega
    refine r_ra G (pn := 37) rfl rfl rfl ?_
    refine r_get G (pn := 40) rfl rfl (by first | assumption | (repeat (first | assumption | exact am_eq (by first | assumption | exact am_eq (by assumption) | exact am_ne (by first | decide | omega) (by assumption)) | refine am_ne (by first | decide | omega) ?_))) rfl ?_
    refine r_ic G (pn := 41) rfl rfl  ?_
    refine r_il G (pn := 42) rfl rfl rfl ?_
    refine r_ib G (pn := 43) rfl rfl  ?_
    rw [nI_5l]
    refine r_il G (pn := 44) rfl rfl rfl ?_
    refine r_ib G (pn := 45) rfl rfl  ?_
    rw [nI_add]
    refine r_ialdN G (pn := 46) rfl rfl h89 (by omega) (by omega) ?_
    refine r_ra G (pn := 47) rfl rfl rfl ?_
    refine r_get G (pn := 50) rfl rfl (by first | assumption | (repeat (first | assumption | exact am_eq (by first | assumption | exact am_eq (by assumption) | exact am_ne (by first | decide | omega) (by assumption)) | refine am_ne (by first | decide | omega) ?_))) rfl ?_
    refine r_ic G (pn := 51) rfl rfl  ?_
    refine r_il G (pn := 52) rfl rfl rfl ?_
    refine r_ib G (pn := 53) rfl rfl  ?_
    rw [nI_5l]
    refine r_il G (pn := 54) rfl rfl rfl ?_
    refine r_ib G (pn := 55) rfl rfl  ?_
    rw [nI_add]
    refine r_ialdN G (pn := 56) rfl rfl h89 (by omega) (by omega) ?_
    rw [a1, b1]
    refine r_if2 G (pn := 59) rfl rfl (fun c56 => ?_) (fun c56 => ?_)
    · have := (m1_le (by omega) (by omega)).mp c56
      refine r_ic G (pn := 64) rfl rfl  ?_
      refine r_iret G rfl (by decide) (hno (fun y => by have := key.mp y; omega))
    · have : R a k < R b k := Nat.not_le.mp (fun y => c56 ((m1_le (by omega) (by omega)).mpr y))
      refine r_ic G (pn := 60) rfl rfl  ?_
      refine r_goto G rfl ?_
      refine r_iret G rfl (by decide) (hyes (key.mpr this))
  have lp : ∀ (z k : Nat), k + z = 4 → (∀ q, q < k → R a q = R b q) → am_Go (am_KA lx e) (am_fetch cd_65) Q 2 [some (.ref 81), some (.int (nI a)), some (.int (nI b)), some (.int (nI k))] [] h 0 0 := by
    intro z
    induction z with
    | zero =>
      intro k hk he
      obtain rfl : k = 4 := by omega
      refine r_il G (pn := 3) rfl rfl rfl ?_
      refine r_ic G (pn := 4) rfl rfl  ?_
      refine r_if2 G (pn := 7) rfl rfl (fun c4 => ?_) (fun c4 => ?_)
      rotate_left
      · exact absurd (by decide) c4
      exact fin 4 (by omega) he (Or.inl rfl)
    | succ z ih =>
      intro k hk he
      obtain ⟨a1, a2⟩ := gw a ha k (by omega)
      obtain ⟨b1, b2⟩ := gw b hb k (by omega)
      refine r_il G (pn := 3) rfl rfl rfl ?_
      refine r_ic G (pn := 4) rfl rfl  ?_
      refine r_if2 G (pn := 7) rfl rfl (fun c4 => ?_) (fun c4 => ?_)
      · exact absurd ((nI_leI (a := 4) (by omega) (by omega)).mp c4) (by omega)
      refine r_ra G (pn := 8) rfl rfl rfl ?_
      refine r_get G (pn := 11) rfl rfl (by first | assumption | (repeat (first | assumption | exact am_eq (by first | assumption | exact am_eq (by assumption) | exact am_ne (by first | decide | omega) (by assumption)) | refine am_ne (by first | decide | omega) ?_))) rfl ?_
      refine r_ic G (pn := 12) rfl rfl  ?_
      refine r_il G (pn := 13) rfl rfl rfl ?_
      refine r_ib G (pn := 14) rfl rfl  ?_
      rw [nI_5l]
      refine r_il G (pn := 15) rfl rfl rfl ?_
      refine r_ib G (pn := 16) rfl rfl  ?_
      rw [nI_add]
      refine r_ialdN G (pn := 17) rfl rfl h89 (by omega) (by omega) ?_
      refine r_ra G (pn := 18) rfl rfl rfl ?_
      refine r_get G (pn := 21) rfl rfl (by first | assumption | (repeat (first | assumption | exact am_eq (by first | assumption | exact am_eq (by assumption) | exact am_ne (by first | decide | omega) (by assumption)) | refine am_ne (by first | decide | omega) ?_))) rfl ?_
      refine r_ic G (pn := 22) rfl rfl  ?_
      refine r_il G (pn := 23) rfl rfl rfl ?_
      refine r_ib G (pn := 24) rfl rfl  ?_
      rw [nI_5l]
      refine r_il G (pn := 25) rfl rfl rfl ?_
      refine r_ib G (pn := 26) rfl rfl  ?_
      rw [nI_add]
      refine r_ialdN G (pn := 27) rfl rfl h89 (by omega) (by omega) ?_
      rw [a1, b1]
      refine r_if2 G (pn := 30) rfl rfl (fun c27 => ?_) (fun c27 => ?_)
      · exact fin k (by omega) he (Or.inr (fun y => c27 (by rw [y])))
      · have ek := (m1_eq (by omega) (by omega)).mp (Classical.byContradiction c27)
        refine r_inc G (pn := 33) rfl rfl rfl (Nat.le_of_ble_eq_true rfl) ?_
        refine r_goto G rfl ?_
        rw [nI_1]
        refine ih (k + 1) (by omega) (fun q hq => ?_)
        by_cases y : q = k
        · rw [y]; exact ek
        · exact he q (by omega)
  exact lp 4 0 (by omega) (fun q hq => absurd hq (Nat.not_lt_zero q))
end
