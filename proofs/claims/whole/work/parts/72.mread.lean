theorem chK_pcode (x : Int32) : pcode x = if chK x < 4 then nI (chK x) else -1 := by
  unfold pcode chK
  by_cases h1 : x = 72
  · subst h1; rfl
  by_cases h2 : x = 79
  · subst h2; rfl
  by_cases h3 : x = 78
  · subst h3; rfl
  by_cases h4 : x = 67
  · subst h4; rfl
  simp only [h1, h2, h3, h4, if_false]
  rw [if_neg]
  repeat' split
  all_goals omega
theorem chK_plink (x : Int32) : plink x = if 4 ≤ chK x ∧ chK x < 7 then nI (chK x - 3) else 0 := by
  unfold plink chK
  by_cases h1 : x = 45
  · subst h1; rfl
  by_cases h2 : x = 61
  · subst h2; rfl
  by_cases h3 : x = 35
  · subst h3; rfl
  simp only [h1, h2, h3, if_false]
  rw [if_neg]
  repeat' split
  all_goals omega
theorem chK_49 (x : Int32) : x = 49 ↔ chK x = 7 := ⟨fun h => by subst h; rfl, fun h => by
  unfold chK at h
  repeat' split at h
  all_goals first | assumption | omega⟩
theorem chK_50 (x : Int32) : x = 50 ↔ chK x = 8 := ⟨fun h => by subst h; rfl, fun h => by
  unfold chK at h
  repeat' split at h
  all_goals first | assumption | omega⟩
theorem chK_ob (x : Int32) : x = 40 ↔ chK x = 9 := ⟨fun h => by subst h; rfl, fun h => by
  unfold chK at h
  repeat' split at h
  all_goals first | assumption | omega⟩
theorem chK_cb (x : Int32) : x = 41 ↔ chK x = 10 := ⟨fun h => by subst h; rfl, fun h => by
  unfold chK at h
  repeat' split at h
  all_goals first | assumption | omega⟩
def mst (s : Nat) : Nat := if s = 1 then 3 else if s = 3 then 1 else if s = 4 then 2 else 0
def pnx (k s dp : Nat) : Int32 := if k < 4 then 1 else if k < 7 then (if s = 1 then 2 else if s = 3 then 0 else -1) else if k < 9 then (if s = 1 ∨ s = 2 then 1 else -1) else if k < 10 then (if s = 1 then 3 else -1) else if k < 11 ∧ s = 1 ∧ 0 < dp then 1 else -1
theorem mst_1 {s : Nat} : (mst s = 1 ↔ s = 3) ∧ (mst s = 2 ↔ s = 4) ∧ (mst s = 3 ↔ s = 1) := by
  unfold mst
  repeat' split
  all_goals omega
theorem rstep_no {k : Nat} {r : Rs} (h : rstep k r = none) : pnx k (mst (r.v 0)) (r.v 1) = -1 := by
  obtain ⟨a1, a2, a3⟩ := @mst_1 (r.v 0)
  unfold rstep at h
  unfold pnx
  split at h
  · cases h
  rename_i k4
  rw [if_neg k4]
  split at h
  · rename_i k7
    rw [if_pos k7]
    split at h
    · cases h
    · rw [if_neg (by omega), if_neg (by omega)]
  rename_i k7
  rw [if_neg k7]
  split at h
  · rename_i k9
    rw [if_pos k9]
    split at h
    · cases h
    · rw [if_neg (by omega)]
  rename_i k9
  rw [if_neg k9]
  split at h
  · rename_i k10
    rw [if_pos k10]
    split at h
    · cases h
    · rw [if_neg (by omega)]
  rename_i k10
  rw [if_neg k10]
  split at h
  · split at h
    · cases h
    · rw [if_neg (by omega)]
  · rw [if_neg (by omega)]
theorem rMark_01 {k : Nat} {r : Rs} : (rMark k r).v 0 = 3 ∧ (rMark k r).v 1 = r.v 1 := by
  unfold rMark
  split
  · exact ⟨rfl, rfl⟩
  · refine ⟨rfl, ?_⟩
    show jnV _ _ _ _ 1 = _
    rw [(jn_ok).2 1 (by omega)]
    split
    · rfl
    · rfl
theorem rstep_yes {k : Nat} {r r' : Rs} (h : rstep k r = some r') : pnx k (mst (r.v 0)) (r.v 1) = nI (mst (r'.v 0)) ∧ r'.v 1 = (if k = 9 then r.v 1 + 1 else if k = 10 then r.v 1 - 1 else r.v 1) ∧ (k = 10 → r.v 1 ≠ 0) := by
  obtain ⟨a1, a2, a3⟩ := @mst_1 (r.v 0)
  unfold rstep at h
  unfold pnx
  split at h
  · rename_i k4
    cases h
    rw [if_pos k4, if_neg (by omega), if_neg (by omega)]
    exact ⟨rfl, rfl, by omega⟩
  rename_i k4
  rw [if_neg k4]
  split at h
  · rename_i k7
    rw [if_pos k7, if_neg (show ¬ k = 9 by omega), if_neg (show ¬ k = 10 by omega)]
    split at h
    · rename_i z
      cases h
      refine ⟨?_, rfl, by omega⟩
      show _ = nI (mst (if r.v 0 = 3 then 4 else 2))
      rcases z with z | z
      · rw [if_pos z, if_pos (a1.mpr z)]; rfl
      · rw [if_neg (show ¬ r.v 0 = 3 by omega), if_neg (show ¬ mst (r.v 0) = 1 by omega), if_pos (a3.mpr z)]; rfl
    · cases h
  rename_i k7
  rw [if_neg k7]
  split at h
  · rename_i k9
    rw [if_pos k9, if_neg (show ¬ k = 9 by omega), if_neg (show ¬ k = 10 by omega)]
    split at h
    · cases h
      rw [if_pos (by omega), rMark_01.1, rMark_01.2]
      exact ⟨rfl, rfl, by omega⟩
    · cases h
  rename_i k9
  rw [if_neg k9]
  split at h
  · rename_i k10
    rw [if_pos k10, if_pos (show k = 9 by omega)]
    split at h
    · cases h
      rw [if_pos (by omega)]
      exact ⟨rfl, rfl, by omega⟩
    · cases h
  rename_i k10
  rw [if_neg k10]
  split at h
  · split at h
    · cases h
      rw [if_pos (by omega), if_neg (show ¬ k = 9 by omega), if_pos (show k = 10 by omega)]
      refine ⟨?_, rfl, by omega⟩
      show _ = nI (mst (r.v 0))
      rw [a1.mpr (by omega)]; rfl
    · cases h
  · cases h
section
variable {lx : am_Lx} {d : Nat} {h : am_H} {Q : am_Q} {m : Nat → Int32}
theorem sp_31 (hd : 2 ≤ d) {s dp : Nat} {x : Int32} (hs : s < 10) (hp : dp < 100) (hq : Q (some (.int (pnx (chK x) s dp))) h) : am_KA lx d 31 [.int (nI s), .int x, .int (nI dp)] h Q := by
  obtain ⟨e, rfl⟩ : ∃ e, d = e + 1 := ⟨d - 1, by omega⟩
  have G : am_GK (am_KA lx e) cd_31 := ⟨am_KA_m lx e, cm_31⟩
  refine am_KA_in (by decide) (Nat.le_of_ble_eq_true rfl) ?_
  show am_Go (am_KA lx e) (am_fetch cd_31) Q 0 [some (.int (nI s)), some (.int x), some (.int (nI dp))] [] h 0 0
  unfold pnx at hq
  refine r_il G (pn := 1) rfl rfl rfl ?_
  refine r_ins1 G (pn := 4) rfl rfl (Nat.le_of_ble_eq_true rfl) (Nat.le_of_ble_eq_true rfl) (Nat.le_of_ble_eq_true rfl) (sp_29 (by omega) ?_)
  show am_Go (am_KA lx e) (am_fetch cd_31) Q 4 [some (.int (nI s)), some (.int x), some (.int (nI dp))] [.int (pcode x)] h 0 0
  rw [chK_pcode]
  by_cases k4 : chK x < 4
  · rw [if_pos k4] at hq ⊢
    refine r_if1 G (pn := 7) rfl rfl (fun c4 => ?_) (fun c4 => ?_)
    · exact absurd c4 (nI_pos (by omega))
    · refine r_ic G (pn := 8) rfl rfl  ?_
      refine r_iret G rfl rfl hq
  rw [if_neg k4] at hq ⊢
  refine r_if1 G (pn := 7) rfl rfl (fun c4 => ?_) (fun c4 => ?_)
  rotate_left
  · exact absurd (by decide) c4
  refine r_il G (pn := 10) rfl rfl rfl ?_
  refine r_ins1 G (pn := 13) rfl rfl (Nat.le_of_ble_eq_true rfl) (Nat.le_of_ble_eq_true rfl) (Nat.le_of_ble_eq_true rfl) (sp_30 (by omega) ?_)
  show am_Go (am_KA lx e) (am_fetch cd_31) Q 13 [some (.int (nI s)), some (.int x), some (.int (nI dp))] [.int (plink x)] h 0 0
  rw [chK_plink]
  by_cases k7 : chK x < 7
  · rw [if_pos k7] at hq
    rw [if_pos ⟨by omega, k7⟩]
    refine r_if1 G (pn := 16) rfl rfl (fun c13 => ?_) (fun c13 => ?_)
    · exact absurd ((nI_leI (b := 0) (by omega) (by omega)).mp c13) (by omega)
    refine r_il G (pn := 17) rfl rfl rfl ?_
    refine r_ic G (pn := 18) rfl rfl  ?_
    refine r_if2 G (pn := 21) rfl rfl (fun c18 => ?_) (fun c18 => ?_)
    · rw [if_neg (show ¬ s = 1 from fun z => c18 (by rw [z]; rfl))] at hq
      refine r_il G (pn := 26) rfl rfl rfl ?_
      refine r_ic G (pn := 27) rfl rfl  ?_
      refine r_if2 G (pn := 30) rfl rfl (fun c27 => ?_) (fun c27 => ?_)
      · rw [if_neg (show ¬ s = 3 from fun z => c27 (by rw [z]; rfl))] at hq
        refine r_ic G (pn := 35) rfl rfl  ?_
        refine r_iret G rfl rfl hq
      · rw [if_pos ((nI_eq (b := 3) (by omega) (by omega)).mp (Classical.byContradiction c27))] at hq
        refine r_ic G (pn := 31) rfl rfl  ?_
        refine r_goto G rfl ?_
        refine r_iret G rfl rfl hq
    · rw [if_pos ((nI_eq (b := 1) (by omega) (by omega)).mp (Classical.byContradiction c18))] at hq
      refine r_ic G (pn := 22) rfl rfl  ?_
      refine r_goto G rfl ?_
      refine r_iret G rfl rfl hq
  rw [if_neg k7] at hq
  rw [if_neg (fun z => k7 z.2)]
  refine r_if1 G (pn := 16) rfl rfl (fun c13 => ?_) (fun c13 => ?_)
  rotate_left
  · exact absurd (by decide) c13
  have q7 := chK_49 x
  have q8 := chK_50 x
  have q9 := chK_ob x
  have q10 := chK_cb x
  have mk : chK x < 9 → am_Go (am_KA lx e) (am_fetch cd_31) Q 48 [some (.int (nI s)), some (.int x), some (.int (nI dp))] [] h 0 0 := by
    intro k9
    rw [if_pos k9] at hq
    refine r_il G (pn := 49) rfl rfl rfl ?_
    refine r_ic G (pn := 50) rfl rfl  ?_
    refine r_if2 G (pn := 53) rfl rfl (fun c50 => ?_) (fun c50 => ?_)
    · rw [if_pos (Or.inl ((nI_eq (b := 1) (by omega) (by omega)).mp c50))] at hq
      refine r_ic G (pn := 59) rfl rfl  ?_
      refine r_goto G rfl ?_
      refine r_iret G rfl rfl hq
    · refine r_il G (pn := 54) rfl rfl rfl ?_
      refine r_ic G (pn := 55) rfl rfl  ?_
      refine r_if2 G (pn := 58) rfl rfl (fun c55 => ?_) (fun c55 => ?_)
      · rw [if_neg (show ¬ (s = 1 ∨ s = 2) from fun z => z.elim (fun z => c50 (by rw [z]; rfl)) (fun z => c55 (by rw [z]; rfl)))] at hq
        refine r_ic G (pn := 63) rfl rfl  ?_
        refine r_iret G rfl rfl hq
      · rw [if_pos (Or.inr ((nI_eq (b := 2) (by omega) (by omega)).mp (Classical.byContradiction c55)))] at hq
        refine r_ic G (pn := 59) rfl rfl  ?_
        refine r_goto G rfl ?_
        refine r_iret G rfl rfl hq
  refine r_il G (pn := 37) rfl rfl rfl ?_
  refine r_ic G (pn := 39) rfl rfl  ?_
  refine r_if2 G (pn := 42) rfl rfl (fun c39 => ?_) (fun c39 => ?_)
  · exact mk (by have := q7.mp c39; omega)
  refine r_il G (pn := 43) rfl rfl rfl ?_
  refine r_ic G (pn := 45) rfl rfl  ?_
  refine r_if2 G (pn := 48) rfl rfl (fun c45 => ?_) (fun c45 => ?_)
  rotate_left
  · exact mk (by have := q8.mp (Classical.byContradiction c45); omega)
  have k9 : ¬ chK x < 9 := fun z => by
    rcases (show chK x = 7 ∨ chK x = 8 by omega) with y | y
    · exact c39 (q7.mpr y)
    · exact c45 (q8.mpr y)
  rw [if_neg k9] at hq
  refine r_il G (pn := 65) rfl rfl rfl ?_
  refine r_ic G (pn := 67) rfl rfl  ?_
  refine r_if2 G (pn := 70) rfl rfl (fun c67 => ?_) (fun c67 => ?_)
  rotate_left
  · have k10 := q9.mp (Classical.byContradiction c67)
    rw [if_pos (by omega)] at hq
    refine r_il G (pn := 71) rfl rfl rfl ?_
    refine r_ic G (pn := 72) rfl rfl  ?_
    refine r_if2 G (pn := 75) rfl rfl (fun c72 => ?_) (fun c72 => ?_)
    · rw [if_neg (show ¬ s = 1 from fun z => c72 (by rw [z]; rfl))] at hq
      refine r_ic G (pn := 80) rfl rfl  ?_
      refine r_iret G rfl rfl hq
    · rw [if_pos ((nI_eq (b := 1) (by omega) (by omega)).mp (Classical.byContradiction c72))] at hq
      refine r_ic G (pn := 76) rfl rfl  ?_
      refine r_goto G rfl ?_
      refine r_iret G rfl rfl hq
  have k10 : ¬ chK x < 10 := fun z => c67 (q9.mpr (by omega))
  rw [if_neg k10] at hq
  refine r_il G (pn := 82) rfl rfl rfl ?_
  refine r_ic G (pn := 84) rfl rfl  ?_
  refine r_if2 G (pn := 87) rfl rfl (fun c84 => ?_) (fun c84 => ?_)
  · rw [if_neg (fun z => c84 (q10.mpr (by omega)))] at hq
    refine r_ic G (pn := 101) rfl rfl  ?_
    refine r_iret G rfl rfl hq
  have k11 := q10.mp (Classical.byContradiction c84)
  refine r_il G (pn := 88) rfl rfl rfl ?_
  refine r_ic G (pn := 89) rfl rfl  ?_
  refine r_if2 G (pn := 92) rfl rfl (fun c89 => ?_) (fun c89 => ?_)
  · rw [if_neg (fun z => c89 (by rw [z.2.1]; rfl))] at hq
    refine r_ic G (pn := 101) rfl rfl  ?_
    refine r_iret G rfl rfl hq
  have s1 := (nI_eq (b := 1) (by omega) (by omega)).mp (Classical.byContradiction c89)
  refine r_il G (pn := 93) rfl rfl rfl ?_
  refine r_if1 G (pn := 96) rfl rfl (fun c93 => ?_) (fun c93 => ?_)
  · rw [if_neg (fun z => absurd ((nI_leI (b := 0) (by omega) (by omega)).mp c93) (by omega))] at hq
    refine r_ic G (pn := 101) rfl rfl  ?_
    refine r_iret G rfl rfl hq
  · rw [if_pos ⟨by omega, s1, Nat.not_le.mp (fun z => c93 ((nI_leI (b := 0) (by omega) (by omega)).mpr z))⟩] at hq
    refine r_ic G (pn := 97) rfl rfl  ?_
    refine r_goto G rfl ?_
    refine r_iret G rfl rfl hq
theorem mst_lt {s : Nat} : mst s < 4 := by
  unfold mst
  repeat' split
  all_goals omega
theorem sp_32 (hd : 3 ≤ d) {n : Nat} {f : Nat → Int32} (hM : h[81]? = some (mO m)) (hm : m 2 = nI n) (h82 : h[82]? = some (aI 24 f)) (hn : n ≤ 24)
    (hf : ∀ p r', p < n → rrun (fun i => chK (f i)) p = some r' → rstep (chK (f p)) r' = none → Q (some (.int (nI p))) h) (he : ∀ r', rrun (fun i => chK (f i)) n = some r' → Q (some (.int (if r'.v 0 = 3 ∧ r'.v 1 = 0 then -1 else nI n))) h) : am_KA lx d 32 [.ref 81] h Q := by
  obtain ⟨e, rfl⟩ : ∃ e, d = e + 1 := ⟨d - 1, by omega⟩
  have G : am_GK (am_KA lx e) cd_32 := ⟨am_KA_m lx e, cm_32⟩
  refine am_KA_in (by decide) (Nat.le_of_ble_eq_true rfl) ?_
  show am_Go (am_KA lx e) (am_fetch cd_32) Q 0 [some (.ref 81), none, none, none] [] h 0 0
  refine r_ic G (pn := 1) rfl rfl  ?_
  refine r_is G (pn := 2) rfl rfl (Nat.le_of_ble_eq_true rfl) ?_
  refine r_ic G (pn := 3) rfl rfl  ?_
  refine r_is G (pn := 4) rfl rfl (Nat.le_of_ble_eq_true rfl) ?_
  refine r_ic G (pn := 5) rfl rfl  ?_
  refine r_is G (pn := 6) rfl rfl (Nat.le_of_ble_eq_true rfl) ?_
  have lp : ∀ (k p : Nat) (r' : Rs), p + k = n → rrun (fun i => chK (f i)) p = some r' → am_Go (am_KA lx e) (am_fetch cd_32) Q 6 [some (.ref 81), some (.int (nI (mst (r'.v 0)))), some (.int (nI (r'.v 1))), some (.int (nI p))] [] h 0 0 := by
    intro k
    induction k with
    | zero =>
      intro p r' hp hr
      obtain rfl : p = n := by omega
      have ok := (rrun_ok hr).1
      obtain ⟨p0, p1, -⟩ := id ok
      refine r_il G (pn := 7) rfl rfl rfl ?_
      refine r_ra G (pn := 8) rfl rfl rfl ?_
      refine r_get G (pn := 11) rfl rfl (by first | assumption | (repeat (first | assumption | exact am_eq (by first | assumption | exact am_eq (by assumption) | exact am_ne (by first | decide | omega) (by assumption)) | refine am_ne (by first | decide | omega) ?_))) rfl ?_
      rw [hm]
      refine r_if2 G (pn := 14) rfl rfl (fun c11 => ?_) (fun c11 => ?_)
      rotate_left
      · exact absurd (Int32.le_refl _) c11
      have hee := he r' hr
      have := @mst_lt (r'.v 0)
      obtain ⟨a1, a2, a3⟩ := @mst_1 (r'.v 0)
      refine r_il G (pn := 75) rfl rfl rfl ?_
      refine r_ic G (pn := 76) rfl rfl  ?_
      refine r_if2 G (pn := 79) rfl rfl (fun c76 => ?_) (fun c76 => ?_)
      · rw [if_neg (fun z => c76 (by rw [a1.mpr z.1]; rfl))] at hee
        refine r_ra G (pn := 88) rfl rfl rfl ?_
        refine r_get G (pn := 91) rfl rfl (by first | assumption | (repeat (first | assumption | exact am_eq (by first | assumption | exact am_eq (by assumption) | exact am_ne (by first | decide | omega) (by assumption)) | refine am_ne (by first | decide | omega) ?_))) rfl ?_
        rw [hm]
        refine r_iret G rfl rfl hee
      · have z3 : r'.v 0 = 3 := a1.mp ((nI_eq (b := 1) (by omega) (by omega)).mp (Classical.byContradiction c76))
        refine r_il G (pn := 80) rfl rfl rfl ?_
        refine r_if1 G (pn := 83) rfl rfl (fun c80 => ?_) (fun c80 => ?_)
        · rw [if_neg (fun z => c80 (by rw [z.2]; rfl))] at hee
          refine r_ra G (pn := 88) rfl rfl rfl ?_
          refine r_get G (pn := 91) rfl rfl (by first | assumption | (repeat (first | assumption | exact am_eq (by first | assumption | exact am_eq (by assumption) | exact am_ne (by first | decide | omega) (by assumption)) | refine am_ne (by first | decide | omega) ?_))) rfl ?_
          rw [hm]
          refine r_iret G rfl rfl hee
        · have z1 : r'.v 1 = 0 := (nI_eq (b := 0) (by omega) (by omega)).mp (Classical.byContradiction c80)
          rw [if_pos ⟨z3, z1⟩] at hee
          refine r_ic G (pn := 84) rfl rfl  ?_
          refine r_goto G rfl ?_
          refine r_iret G rfl rfl hee
    | succ k ih =>
      intro p r' hp hr
      have ok := (rrun_ok hr).1
      obtain ⟨p0, p1, -⟩ := id ok
      have := @mst_lt (r'.v 0)
      refine r_il G (pn := 7) rfl rfl rfl ?_
      refine r_ra G (pn := 8) rfl rfl rfl ?_
      refine r_get G (pn := 11) rfl rfl (by first | assumption | (repeat (first | assumption | exact am_eq (by first | assumption | exact am_eq (by assumption) | exact am_ne (by first | decide | omega) (by assumption)) | refine am_ne (by first | decide | omega) ?_))) rfl ?_
      rw [hm]
      refine r_if2 G (pn := 14) rfl rfl (fun c11 => ?_) (fun c11 => ?_)
      · exact absurd ((nI_leI (by omega) (by omega)).mp c11) (by omega)
      refine r_il G (pn := 15) rfl rfl rfl ?_
      refine r_ra G (pn := 16) rfl rfl rfl ?_
      refine r_get G (pn := 19) rfl rfl (by first | assumption | (repeat (first | assumption | exact am_eq (by first | assumption | exact am_eq (by assumption) | exact am_ne (by first | decide | omega) (by assumption)) | refine am_ne (by first | decide | omega) ?_))) rfl ?_
      refine r_il G (pn := 20) rfl rfl rfl ?_
      refine r_ialdN G (pn := 21) rfl rfl h82 (by omega) (by omega) ?_
      refine r_il G (pn := 22) rfl rfl rfl ?_
      refine r_ins3 G (pn := 25) rfl rfl (Nat.le_of_ble_eq_true rfl) (Nat.le_of_ble_eq_true rfl) (Nat.le_of_ble_eq_true rfl) (sp_31 (by omega) (by omega) (by omega) ?_)
      show am_Go (am_KA lx e) (am_fetch cd_32) Q 25 [some (.ref 81), some (.int (nI (mst (r'.v 0)))), some (.int (nI (r'.v 1))), some (.int (nI p))] [.int (pnx (chK (f p)) (mst (r'.v 0)) (r'.v 1))] h 0 0
      cases hs : rstep (chK (f p)) r' with
      | none =>
        rw [rstep_no hs]
        refine r_is G (pn := 26) rfl rfl (Nat.le_of_ble_eq_true rfl) ?_
        refine r_il G (pn := 27) rfl rfl rfl ?_
        refine r_if1 G (pn := 30) rfl rfl (fun c27 => ?_) (fun c27 => ?_)
        · exact absurd c27 (by decide)
        · refine r_il G (pn := 31) rfl rfl rfl ?_
          refine r_iret G rfl rfl (hf p r' (by omega) hr hs)
      | some r2 =>
        obtain ⟨e1, e2, e3⟩ := rstep_yes hs
        rw [e1]
        have := @mst_lt (r2.v 0)
        have hr2 := (rrun_S hr).trans hs
        have fin : am_Go (am_KA lx e) (am_fetch cd_32) Q 67 [some (.ref 81), some (.int (nI (mst (r2.v 0)))), some (.int (nI (r'.v 1))), some (.int (nI p))] [.int (nI (r2.v 1))] h 0 0 := by
          refine r_is G (pn := 68) rfl rfl (Nat.le_of_ble_eq_true rfl) ?_
          refine r_inc G (pn := 71) rfl rfl rfl (Nat.le_of_ble_eq_true rfl) ?_
          refine r_goto G rfl ?_
          rw [nI_1]
          exact ih (p + 1) r2 (by omega) hr2
        refine r_is G (pn := 26) rfl rfl (Nat.le_of_ble_eq_true rfl) ?_
        refine r_il G (pn := 27) rfl rfl rfl ?_
        refine r_if1 G (pn := 30) rfl rfl (fun c27 => ?_) (fun c27 => ?_)
        rotate_left
        · exact absurd ((nI_leI (a := 0) (by omega) (by omega)).mpr (Nat.zero_le _)) c27
        refine r_ra G (pn := 33) rfl rfl rfl ?_
        refine r_get G (pn := 36) rfl rfl (by first | assumption | (repeat (first | assumption | exact am_eq (by first | assumption | exact am_eq (by assumption) | exact am_ne (by first | decide | omega) (by assumption)) | refine am_ne (by first | decide | omega) ?_))) rfl ?_
        refine r_il G (pn := 37) rfl rfl rfl ?_
        refine r_ialdN G (pn := 38) rfl rfl h82 (by omega) (by omega) ?_
        refine r_ic G (pn := 40) rfl rfl  ?_
        refine r_if2 G (pn := 43) rfl rfl (fun c40 => ?_) (fun c40 => ?_)
        · rw [if_neg (fun z => c40 ((chK_ob _).mpr z))] at e2
          refine r_ra G (pn := 50) rfl rfl rfl ?_
          refine r_get G (pn := 53) rfl rfl (by first | assumption | (repeat (first | assumption | exact am_eq (by first | assumption | exact am_eq (by assumption) | exact am_ne (by first | decide | omega) (by assumption)) | refine am_ne (by first | decide | omega) ?_))) rfl ?_
          refine r_il G (pn := 54) rfl rfl rfl ?_
          refine r_ialdN G (pn := 55) rfl rfl h82 (by omega) (by omega) ?_
          refine r_ic G (pn := 57) rfl rfl  ?_
          refine r_if2 G (pn := 60) rfl rfl (fun c57 => ?_) (fun c57 => ?_)
          · rw [if_neg (fun z => c57 ((chK_cb _).mpr z))] at e2
            refine r_il G (pn := 67) rfl rfl rfl ?_
            rw [← e2]
            exact e2 ▸ fin
          · have z := (chK_cb _).mp (Classical.byContradiction c57)
            rw [if_pos z] at e2
            obtain ⟨w, hw⟩ : ∃ w, r'.v 1 = w + 1 := ⟨r'.v 1 - 1, by have := e3 z; omega⟩
            refine r_il G (pn := 61) rfl rfl rfl ?_
            refine r_ic G (pn := 62) rfl rfl  ?_
            refine r_ib G (pn := 63) rfl rfl  ?_
            refine r_goto G rfl ?_
            rw [hw, Nat.add_sub_cancel] at e2
            rw [e2, hw] at fin
            rw [hw, nI_pred]
            exact fin
        · have z := (chK_ob _).mp (Classical.byContradiction c40)
          rw [if_pos z] at e2
          refine r_il G (pn := 44) rfl rfl rfl ?_
          refine r_ic G (pn := 45) rfl rfl  ?_
          refine r_ib G (pn := 46) rfl rfl  ?_
          refine r_goto G rfl ?_
          rw [nI_1]
          rw [e2] at fin
          exact fin
  exact lp n 0 rs0 (by omega) rfl
end
