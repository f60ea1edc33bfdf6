/-- the model's bonds after a rewriting -/
def TnI (h : am_H) (n : Nat) (od : Nat → Nat → Nat) : Prop := ∃ f, h[99]? = some (aI 100 f) ∧ ∀ i j, i < n → j < n → f (10 * i + j) = nI (od i j)
theorem TnI.fr {h h' : am_H} {n : Nat} {od : Nat → Nat → Nat} {P : Nat → Prop} (hI : TnI h n od) (hf : am_fr P h h') (hP : ¬ P 99) : TnI h' n od := by
  obtain ⟨f, h1, h2⟩ := hI
  exact ⟨f, hf.at hP h1, h2⟩
section
variable {lx : am_Lx} {d : Nat} {h : am_H} {Q : am_Q} {m : Nat → Int32}
set_option maxRecDepth 20000 in
theorem sp_57 (hd : 2 ≤ d) {q P n : Nat} {C Bf Af cd mo c : Nat → Nat} {od : Nat → Nat → Nat} (hI : MmI h m n cd mo od) (hn : n ≤ 10) (hcd : ∀ i, i < n → cd i < 4) (hod : ∀ i j, i < n → j < n → od i j < 4 ∧ od i j = od j i) (hdg : ∀ i, i < n → od i i = 0) (hR : RmI h q P C Bf Af) (hq3 : q < 3) (hC : ∃ f, h[101]? = some (aI 3 f) ∧ ∀ j, j < P → f j = nI (c j)) (hc : ∀ j, j < P → c j < n) (hci : ∀ i j, i < j → j < P → c i ≠ c j) (h99 : ∃ f, h[99]? = some (aI 100 f))
    (hno : ∀ h', am_fr (fun i => i = 99) h h' → TnI h' n (rwO P c Af od) → (∃ x, x < n ∧ cd x + 1 < sm (rwO P c Af od x) n) → Q (some (.int 0)) h')
    (hyes : ∀ h', am_fr (fun i => i = 99) h h' → TnI h' n (rwO P c Af od) → (∀ x, x < n → sm (rwO P c Af od x) n ≤ cd x + 1) → Q (some (.int 1)) h') : am_KA lx d 57 [.ref 81, .int (nI q)] h Q := by
  obtain ⟨hM, m24, ⟨f6, h96, g6⟩, -, ⟨f8, h98, g8⟩⟩ := hI
  obtain ⟨hP, ⟨fp, h84, gp⟩, -, -, ⟨fa, h87, ga⟩⟩ := hR
  obtain ⟨fc, h101, gc⟩ := hC
  obtain ⟨f9, h99⟩ := h99
  have hAf : ∀ x, x < 3 → P = 3 → Af x < 4 := by
    intro x hx _
    rcases (show x = 0 ∨ x = 1 ∨ x = 2 by omega) with z | z | z
    · rw [z]; exact (ga 0 1 (by omega) (by omega)).2
    · rw [z]; exact (ga 0 2 (by omega) (by omega)).2
    · rw [z]; exact (ga 1 2 (by omega) (by omega)).2
  have hAf4 : ∀ x, x < 3 → Af x < 4 := by
    intro x hx
    rcases (show x = 0 ∨ x = 1 ∨ x = 2 by omega) with z | z | z
    · rw [z]; exact (ga 0 1 (by omega) (by omega)).2
    · rw [z]; exact (ga 0 2 (by omega) (by omega)).2
    · rw [z]; exact (ga 1 2 (by omega) (by omega)).2
  have hg := (rwO_g (c := c) hP hAf4 hci hod hdg).1
  obtain ⟨e, rfl⟩ : ∃ e, d = e + 1 := ⟨d - 1, by omega⟩
  have G : am_GK (am_KA lx e) cd_57 := ⟨am_KA_m lx e, cm_57⟩
  refine am_KA_in (by decide) (Nat.le_of_ble_eq_true rfl) ?_
  show am_Go (am_KA lx e) (am_fetch cd_57) Q 0 [some (.ref 81), some (.int (nI q)), none, none, none] [] h 0 0
  -- the loads
  have lp3 : ∀ (z x : Nat) (h' : am_H) (can : Nat) (y4 : Option Value), x + z = n → am_fr (fun i => i = 99) h h' → TnI h' n (rwO P c Af od) → can ≤ 1 → (can = 1 → ∀ y, y < x → sm (rwO P c Af od y) n ≤ cd y + 1) → (can = 0 → ∃ y, y < n ∧ cd y + 1 < sm (rwO P c Af od y) n) → am_Go (am_KA lx e) (am_fetch cd_57) Q 124 [some (.ref 81), some (.int (nI q)), some (.int (nI can)), some (.int (nI x)), y4] [] h' 0 0 := by
    intro z
    induction z with
    | zero =>
      intro x h' can y4 hx hf hT hcan c1 c0
      obtain rfl : x = n := by omega
      have kM := hf.at (by omega) hM
      refine r_il G (pn := 125) rfl rfl rfl ?_
      refine r_ra G (pn := 126) rfl rfl rfl ?_
      refine r_get G (pn := 129) rfl rfl (by first | assumption | (repeat (first | assumption | exact am_eq (by first | assumption | exact am_eq (by assumption) | exact am_ne (by first | decide | omega) (by assumption)) | refine am_ne (by first | decide | omega) ?_))) rfl ?_
      rw [m24]
      refine r_if2 G (pn := 132) rfl rfl (fun c129 => ?_) (fun c129 => ?_)
      rotate_left
      · exact absurd (Int32.le_refl _) c129
      refine r_il G (pn := 165) rfl rfl rfl ?_
      rcases (show can = 0 ∨ can = 1 by omega) with y | y
      · subst y
        refine r_iret G rfl (by decide) (hno h' hf hT (c0 rfl))
      · subst y
        refine r_iret G rfl (by decide) (hyes h' hf hT (c1 rfl))
    | succ z ih =>
      intro x h' can y4 hx hf hT hcan c1 c0
      have kM := hf.at (by omega) hM
      have k96 := hf.at (by omega) h96
      refine r_il G (pn := 125) rfl rfl rfl ?_
      refine r_ra G (pn := 126) rfl rfl rfl ?_
      refine r_get G (pn := 129) rfl rfl (by first | assumption | (repeat (first | assumption | exact am_eq (by first | assumption | exact am_eq (by assumption) | exact am_ne (by first | decide | omega) (by assumption)) | refine am_ne (by first | decide | omega) ?_))) rfl ?_
      rw [m24]
      refine r_if2 G (pn := 132) rfl rfl (fun c129 => ?_) (fun c129 => ?_)
      · exact absurd ((nI_leI (by omega) (by omega)).mp c129) (by omega)
      have no : (∃ y, y < n ∧ cd y + 1 < sm (rwO P c Af od y) n) → am_Go (am_KA lx e) (am_fetch cd_57) Q 156 [some (.ref 81), some (.int (nI q)), some (.int (nI can)), some (.int (nI x)), y4] [] h' 0 0 := by
        intro hh
        refine r_ic G (pn := 157) rfl rfl  ?_
        refine r_is G (pn := 158) rfl rfl (Nat.le_of_ble_eq_true rfl) ?_
        refine r_inc G (pn := 161) rfl rfl rfl (Nat.le_of_ble_eq_true rfl) ?_
        refine r_goto G rfl ?_
        rw [nI_1]
        exact ih (x + 1) h' 0 _ (by omega) hf hT (by omega) (fun y => absurd y (by omega)) (fun _ => hh)
      refine r_il G (pn := 133) rfl rfl rfl ?_
      refine r_if1 G (pn := 136) rfl rfl (fun c133 => ?_) (fun c133 => ?_)
      · exact no (c0 ((nI_eq (b := 0) (by omega) (by omega)).mp c133))
      have can1 : can = 1 := by
        have : can ≠ 0 := fun z => c133 (by rw [z]; rfl)
        omega
      obtain ⟨ft, k99, gt⟩ := id hT
      refine r_ra G (pn := 137) rfl rfl rfl ?_
      refine r_il G (pn := 138) rfl rfl rfl ?_
      refine r_inv2 G (pn := 141) rfl rfl kM (Nat.le_of_ble_eq_true rfl) (Nat.le_of_ble_eq_true rfl) (Nat.le_of_ble_eq_true rfl) (sp_36 (a := x) (by omega) kM m24 k99 hn (by omega) (fun j hj => ⟨gt x j (by omega) hj, (hg x j (by omega) hj).1⟩) ?_)
      have smb : sm (rwO P c Af od x) n ≤ 40 := by
        have : ∀ k, k ≤ n → sm (rwO P c Af od x) k ≤ 4 * k := by
          intro k
          induction k with
          | zero => intro _; exact Nat.zero_le _
          | succ k ihk =>
            intro hk
            have := ihk (by omega)
            have := (hg x k (by omega) (by omega)).1
            show sm (rwO P c Af od x) k + rwO P c Af od x k ≤ 4 * (k + 1)
            omega
        have := this n (Nat.le_refl _)
        omega
      show am_Go (am_KA lx e) (am_fetch cd_57) Q 141 [some (.ref 81), some (.int (nI q)), some (.int (nI can)), some (.int (nI x)), y4] [.int (nI (sm (rwO P c Af od x) n))] h' 0 0
      have cx := hcd x (by omega)
      refine r_ra G (pn := 142) rfl rfl rfl ?_
      refine r_get G (pn := 145) rfl rfl (by first | assumption | (repeat (first | assumption | exact am_eq (by first | assumption | exact am_eq (by assumption) | exact am_ne (by first | decide | omega) (by assumption)) | refine am_ne (by first | decide | omega) ?_))) rfl ?_
      refine r_il G (pn := 146) rfl rfl rfl ?_
      refine r_ialdN G (pn := 147) rfl rfl k96 (by omega) (by omega) ?_
      rw [g6 x (by omega)]
      refine r_ic G (pn := 148) rfl rfl  ?_
      refine r_ib G (pn := 149) rfl rfl  ?_
      rw [nI_1]
      refine r_if2 G (pn := 152) rfl rfl (fun c149 => ?_) (fun c149 => ?_)
      · exact no ⟨x, by omega, (nI_ltI (by omega) (by omega)).mp c149⟩
      refine r_ic G (pn := 153) rfl rfl  ?_
      refine r_goto G rfl ?_
      refine r_is G (pn := 158) rfl rfl (Nat.le_of_ble_eq_true rfl) ?_
      refine r_inc G (pn := 161) rfl rfl rfl (Nat.le_of_ble_eq_true rfl) ?_
      refine r_goto G rfl ?_
      rw [nI_1]
      refine ih (x + 1) h' 1 _ (by omega) hf hT (by omega) (fun _ y hy => ?_) (fun y => absurd y (by omega))
      by_cases w : y = x
      · rw [w]
        exact Nat.not_lt.mp (fun v => c149 ((nI_ltI (by omega) (by omega)).mpr v))
      · exact c1 can1 y (by omega)
  -- the rewriting
  have stp : ∀ (i j : Nat) (h1 : am_H) (od1 : Nat → Nat → Nat) (y4 : Option Value), i < j → j < P → am_fr (fun i => i = 99) h h1 → TnI h1 n od1 → (∀ h2 y4, am_fr (fun i => i = 99) h h2 → TnI h2 n (oset od1 (c i) (c j) (Af (i + j - 1))) → am_Go (am_KA lx e) (am_fetch cd_57) Q 40 [some (.ref 81), some (.int (nI q)), some (.int (nI j)), some (.int (nI (i + 1))), y4] [] h2 0 0) → am_Go (am_KA lx e) (am_fetch cd_57) Q 40 [some (.ref 81), some (.int (nI q)), some (.int (nI j)), some (.int (nI i)), y4] [] h1 0 0 := by
    intro i j h1 od1 y4 hij hj hf1 hT1 hk
    have kM := hf1.at (by omega) hM
    have k87 := hf1.at (by omega) h87
    have k101 := hf1.at (by omega) h101
    obtain ⟨ft, k99, gt⟩ := hT1
    have ci := hc i (by omega)
    have cj := hc j hj
    refine r_il G (pn := 41) rfl rfl rfl ?_
    refine r_il G (pn := 42) rfl rfl rfl ?_
    refine r_if2 G (pn := 45) rfl rfl (fun c42 => ?_) (fun c42 => ?_)
    · exact absurd ((nI_leI (by omega) (by omega)).mp c42) (by omega)
    refine r_ra G (pn := 46) rfl rfl rfl ?_
    refine r_get G (pn := 49) rfl rfl (by first | assumption | (repeat (first | assumption | exact am_eq (by first | assumption | exact am_eq (by assumption) | exact am_ne (by first | decide | omega) (by assumption)) | refine am_ne (by first | decide | omega) ?_))) rfl ?_
    refine r_ic G (pn := 51) rfl rfl  ?_
    refine r_il G (pn := 52) rfl rfl rfl ?_
    refine r_ib G (pn := 53) rfl rfl  ?_
    refine r_ic G (pn := 54) rfl rfl  ?_
    refine r_il G (pn := 55) rfl rfl rfl ?_
    refine r_ib G (pn := 56) rfl rfl  ?_
    refine r_ib G (pn := 57) rfl rfl  ?_
    refine r_il G (pn := 58) rfl rfl rfl ?_
    refine r_ib G (pn := 59) rfl rfl  ?_
    rw [nI_9l, nI_3l, nI_add, nI_add]
    refine r_ialdN G (pn := 60) rfl rfl k87 (by omega) (by omega) ?_
    rw [(ga i j hij (by omega)).1]
    refine r_is G (pn := 62) rfl rfl (Nat.le_of_ble_eq_true rfl) ?_
    refine r_ra G (pn := 63) rfl rfl rfl ?_
    refine r_get G (pn := 66) rfl rfl (by first | assumption | (repeat (first | assumption | exact am_eq (by first | assumption | exact am_eq (by assumption) | exact am_ne (by first | decide | omega) (by assumption)) | refine am_ne (by first | decide | omega) ?_))) rfl ?_
    refine r_ic G (pn := 68) rfl rfl  ?_
    refine r_ra G (pn := 69) rfl rfl rfl ?_
    refine r_get G (pn := 72) rfl rfl (by first | assumption | (repeat (first | assumption | exact am_eq (by first | assumption | exact am_eq (by assumption) | exact am_ne (by first | decide | omega) (by assumption)) | refine am_ne (by first | decide | omega) ?_))) rfl ?_
    refine r_il G (pn := 73) rfl rfl rfl ?_
    refine r_ialdN G (pn := 74) rfl rfl k101 (by omega) (by omega) ?_
    rw [gc i (by omega)]
    refine r_ib G (pn := 75) rfl rfl  ?_
    refine r_ra G (pn := 76) rfl rfl rfl ?_
    refine r_get G (pn := 79) rfl rfl (by first | assumption | (repeat (first | assumption | exact am_eq (by first | assumption | exact am_eq (by assumption) | exact am_ne (by first | decide | omega) (by assumption)) | refine am_ne (by first | decide | omega) ?_))) rfl ?_
    refine r_il G (pn := 80) rfl rfl rfl ?_
    refine r_ialdN G (pn := 81) rfl rfl k101 (by omega) (by omega) ?_
    rw [gc j hj]
    refine r_ib G (pn := 82) rfl rfl  ?_
    rw [nI_10]
    refine r_il G (pn := 84) rfl rfl rfl ?_
    refine r_iastN G (pn := 85) rfl rfl k99 (by omega) (by omega) ?_
    refine r_ra G (pn := 86) rfl rfl rfl ?_
    refine r_get G (pn := 89) rfl rfl (am_ne (by decide) kM) rfl ?_
    refine r_ic G (pn := 91) rfl rfl  ?_
    refine r_ra G (pn := 92) rfl rfl rfl ?_
    refine r_get G (pn := 95) rfl rfl (am_ne (by decide) kM) rfl ?_
    refine r_il G (pn := 96) rfl rfl rfl ?_
    refine r_ialdN G (pn := 97) rfl rfl (am_ne (by decide) k101) (by omega) (by omega) ?_
    rw [gc j hj]
    refine r_ib G (pn := 98) rfl rfl  ?_
    refine r_ra G (pn := 99) rfl rfl rfl ?_
    refine r_get G (pn := 102) rfl rfl (am_ne (by decide) kM) rfl ?_
    refine r_il G (pn := 103) rfl rfl rfl ?_
    refine r_ialdN G (pn := 104) rfl rfl (am_ne (by decide) k101) (by omega) (by omega) ?_
    rw [gc i (by omega)]
    refine r_ib G (pn := 105) rfl rfl  ?_
    rw [nI_10]
    refine r_il G (pn := 107) rfl rfl rfl ?_
    refine r_iastN G (pn := 108) rfl rfl (am_eq k99) (by omega) (by omega) ?_
    refine r_inc G (pn := 111) rfl rfl rfl (Nat.le_of_ble_eq_true rfl) ?_
    refine r_goto G rfl ?_
    rw [nI_1]
    refine hk _ _ ((hf1.put rfl).put rfl) ⟨_, am_eq (am_eq k99), fun a b ha hb => ?_⟩
    unfold oset
    by_cases z : (a = c i ∧ b = c j) ∨ (a = c j ∧ b = c i)
    · rw [if_pos z]
      by_cases y : 10 * a + b = 10 * c j + c i
      · rw [y, pk_us]
      · rw [pk_un y]
        have : 10 * a + b = 10 * c i + c j := by omega
        rw [this, pk_us]
    · rw [if_neg z, pk_un (by omega), pk_un (by omega)]
      exact gt a b ha hb
  have ends : ∀ (j : Nat) (h1 : am_H) (y4 : Option Value), j < P → am_Go (am_KA lx e) (am_fetch cd_57) Q 28 [some (.ref 81), some (.int (nI q)), some (.int (nI (j + 1))), some (.int (nI j)), y4] [] h1 0 0 → am_Go (am_KA lx e) (am_fetch cd_57) Q 40 [some (.ref 81), some (.int (nI q)), some (.int (nI j)), some (.int (nI j)), y4] [] h1 0 0 := by
    intro j h1 y4 hj hk
    refine r_il G (pn := 41) rfl rfl rfl ?_
    refine r_il G (pn := 42) rfl rfl rfl ?_
    refine r_if2 G (pn := 45) rfl rfl (fun c42 => ?_) (fun c42 => ?_)
    rotate_left
    · exact absurd (Int32.le_refl _) c42
    refine r_inc G (pn := 117) rfl rfl rfl (Nat.le_of_ble_eq_true rfl) ?_
    refine r_goto G rfl ?_
    rw [nI_1]
    exact hk
  have begin_ : ∀ (j : Nat) (h1 : am_H) (y3 y4 : Option Value), j < P → am_fr (fun i => i = 99) h h1 → am_Go (am_KA lx e) (am_fetch cd_57) Q 40 [some (.ref 81), some (.int (nI q)), some (.int (nI j)), some (.int (nI 0)), y4] [] h1 0 0 → am_Go (am_KA lx e) (am_fetch cd_57) Q 28 [some (.ref 81), some (.int (nI q)), some (.int (nI j)), y3, y4] [] h1 0 0 := by
    intro j h1 y3 y4 hj hf1 hk
    have kM := hf1.at (by omega) hM
    have k84 := hf1.at (by omega) h84
    refine r_il G (pn := 29) rfl rfl rfl ?_
    refine r_ra G (pn := 30) rfl rfl rfl ?_
    refine r_get G (pn := 33) rfl rfl (by first | assumption | (repeat (first | assumption | exact am_eq (by first | assumption | exact am_eq (by assumption) | exact am_ne (by first | decide | omega) (by assumption)) | refine am_ne (by first | decide | omega) ?_))) rfl ?_
    refine r_il G (pn := 34) rfl rfl rfl ?_
    refine r_ialdN G (pn := 35) rfl rfl k84 (by omega) (by omega) ?_
    rw [gp]
    refine r_if2 G (pn := 38) rfl rfl (fun c35 => ?_) (fun c35 => ?_)
    · exact absurd ((nI_leI (by omega) (by omega)).mp c35) (by omega)
    refine r_ic G (pn := 39) rfl rfl  ?_
    refine r_is G (pn := 40) rfl rfl (Nat.le_of_ble_eq_true rfl) ?_
    exact hk
  have stop : ∀ (h1 : am_H) (y3 y4 : Option Value), am_fr (fun i => i = 99) h h1 → TnI h1 n (rwO P c Af od) → am_Go (am_KA lx e) (am_fetch cd_57) Q 28 [some (.ref 81), some (.int (nI q)), some (.int (nI P)), y3, y4] [] h1 0 0 := by
    intro h1 y3 y4 hf1 hT1
    have kM := hf1.at (by omega) hM
    have k84 := hf1.at (by omega) h84
    refine r_il G (pn := 29) rfl rfl rfl ?_
    refine r_ra G (pn := 30) rfl rfl rfl ?_
    refine r_get G (pn := 33) rfl rfl (by first | assumption | (repeat (first | assumption | exact am_eq (by first | assumption | exact am_eq (by assumption) | exact am_ne (by first | decide | omega) (by assumption)) | refine am_ne (by first | decide | omega) ?_))) rfl ?_
    refine r_il G (pn := 34) rfl rfl rfl ?_
    refine r_ialdN G (pn := 35) rfl rfl k84 (by omega) (by omega) ?_
    rw [gp]
    refine r_if2 G (pn := 38) rfl rfl (fun c35 => ?_) (fun c35 => ?_)
    rotate_left
    · exact absurd (Int32.le_refl _) c35
    refine r_ic G (pn := 121) rfl rfl  ?_
    refine r_is G (pn := 122) rfl rfl (Nat.le_of_ble_eq_true rfl) ?_
    refine r_ic G (pn := 123) rfl rfl  ?_
    refine r_is G (pn := 124) rfl rfl (Nat.le_of_ble_eq_true rfl) ?_
    exact lp3 n 0 h1 1 _ (by omega) hf1 hT1 (by omega) (fun _ y hy => absurd hy (Nat.not_lt_zero y)) (fun y => absurd y (by omega))
  have lp1 : ∀ (z k : Nat) (h' : am_H) (f : Nat → Int32), k + z = 100 → am_fr (fun i => i = 99) h h' → h'[99]? = some (aI 100 f) → (∀ p, p < k → f p = f8 p) → am_Go (am_KA lx e) (am_fetch cd_57) Q 2 [some (.ref 81), some (.int (nI q)), some (.int (nI k)), none, none] [] h' 0 0 := by
    intro z
    induction z with
    | zero =>
      intro k h' f hk hf k99 gf
      obtain rfl : k = 100 := by omega
      refine r_il G (pn := 3) rfl rfl rfl ?_
      refine r_ic G (pn := 5) rfl rfl  ?_
      refine r_if2 G (pn := 8) rfl rfl (fun c5 => ?_) (fun c5 => ?_)
      rotate_left
      · exact absurd (by decide) c5
      refine r_ic G (pn := 27) rfl rfl  ?_
      refine r_is G (pn := 28) rfl rfl (Nat.le_of_ble_eq_true rfl) ?_
      have T0 : TnI h' n od := ⟨f, k99, fun i j hi hj => by rw [gf _ (by omega), g8 i j (by omega) (by omega), if_pos ⟨hi, hj⟩]⟩
      refine begin_ 1 h' _ _ (by omega) hf (stp 0 1 h' od _ (by omega) (by omega) hf T0 (fun h2 y4 hf2 T2 => ends 1 h2 _ (by omega) ?_))
      rcases hP with z | z
      · subst z
        refine stop h2 _ _ hf2 ?_
        unfold rwO
        rw [if_pos rfl]
        exact T2
      · subst z
        refine begin_ 2 h2 _ _ (by omega) hf2 (stp 0 2 h2 _ _ (by omega) (by omega) hf2 T2 (fun h3 y4 hf3 T3 => stp 1 2 h3 _ _ (by omega) (by omega) hf3 T3 (fun h4 y4 hf4 T4 => ends 2 h4 _ (by omega) (stop h4 _ _ hf4 ?_))))
        unfold rwO
        rw [if_neg (by omega)]
        exact T4
    | succ z ih =>
      intro k h' f hk hf k99 gf
      have kM := hf.at (by omega) hM
      have k98 := hf.at (by omega) h98
      refine r_il G (pn := 3) rfl rfl rfl ?_
      refine r_ic G (pn := 5) rfl rfl  ?_
      refine r_if2 G (pn := 8) rfl rfl (fun c5 => ?_) (fun c5 => ?_)
      · exact absurd ((nI_leI (a := 100) (by omega) (by omega)).mp c5) (by omega)
      refine r_ra G (pn := 9) rfl rfl rfl ?_
      refine r_get G (pn := 12) rfl rfl (by first | assumption | (repeat (first | assumption | exact am_eq (by first | assumption | exact am_eq (by assumption) | exact am_ne (by first | decide | omega) (by assumption)) | refine am_ne (by first | decide | omega) ?_))) rfl ?_
      refine r_il G (pn := 13) rfl rfl rfl ?_
      refine r_ra G (pn := 14) rfl rfl rfl ?_
      refine r_get G (pn := 17) rfl rfl (by first | assumption | (repeat (first | assumption | exact am_eq (by first | assumption | exact am_eq (by assumption) | exact am_ne (by first | decide | omega) (by assumption)) | refine am_ne (by first | decide | omega) ?_))) rfl ?_
      refine r_il G (pn := 18) rfl rfl rfl ?_
      refine r_ialdN G (pn := 19) rfl rfl k98 (by omega) (by omega) ?_
      refine r_iastN G (pn := 20) rfl rfl k99 (by omega) (by omega) ?_
      refine r_inc G (pn := 23) rfl rfl rfl (Nat.le_of_ble_eq_true rfl) ?_
      refine r_goto G rfl ?_
      rw [nI_1]
      refine ih (k + 1) _ _ (by omega) (hf.put rfl) (am_eq k99) (fun p hp => ?_)
      by_cases y : p = k
      · rw [y, pk_us]
      · rw [pk_un y]; exact gf p (by omega)
  refine r_ic G (pn := 1) rfl rfl  ?_
  refine r_is G (pn := 2) rfl rfl (Nat.le_of_ble_eq_true rfl) ?_
  exact lp1 100 0 h f9 (by omega) am_fr.rf h99 (fun p hp => absurd hp (Nat.not_lt_zero p))
end
