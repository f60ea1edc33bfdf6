theorem rrun_pre {f : Nat → Nat} {n : Nat} {r : Rs} (h : rrun f n = some r) : ∀ k p, p + k = n → ∃ r', rrun f p = some r'
  | 0, p, e => ⟨r, by rw [← h]; congr 1⟩
  | k + 1, p, e => by
    obtain ⟨r', h'⟩ := rrun_pre h k (p + 1) (by omega)
    cases hq : rrun f p with
    | some q => exact ⟨q, rfl⟩
    | none =>
      have : rrun f (p + 1) = none := by
        show (match rrun f p with | none => none | some r => rstep (f p) r) = none
        rw [hq]
      rw [this] at h'
      cases h'
theorem rstep_v3 {k : Nat} {r r' : Rs} (hE : PEx r) (h : rstep k r = some r') : r'.v 3 = if 4 ≤ k ∧ k < 7 then k - 3 else 1 := by
  unfold rstep at h
  split at h
  · cases h
    rw [if_neg (by omega)]
    rfl
  split at h
  · rw [if_pos (by omega)]
    split at h
    · cases h; rfl
    · cases h
  rw [if_neg (by omega)]
  split at h
  · split at h
    · cases h
      unfold rMark
      split <;> rfl
    · cases h
  split at h
  · split at h
    · cases h; rfl
    · cases h
  split at h
  · split at h
    · rename_i z
      cases h
      have := hE.1
      show r.v 3 = 1
      omega
    · cases h
  · cases h
section
variable {lx : am_Lx} {d : Nat} {h : am_H} {Q : am_Q} {m : Nat → Int32}
set_option maxRecDepth 20000 in
theorem sp_34 (hd : 2 ≤ d) {n : Nat} {f f3 f4 f5 : Nat → Int32} {rN : Rs} (hM : h[81]? = some (mO m)) (h93 : h[93]? = some (aI 24 f3)) (h94 : h[94]? = some (aI 576 f4)) (h95 : h[95]? = some (aI 24 f5)) (hm : m 2 = nI n) (h82 : h[82]? = some (aI 24 f)) (hn : n ≤ 24) (hr : rrun (fun i => chK (f i)) n = some rN)
    (hq : ∀ h' m', am_fr mrP h h' → mrM m m' → MrI h' m' rN → Q (some (.int (if rN.ma 0 = 0 ∧ rN.ma 1 = 0 then 1 else 0))) h') : am_KA lx d 34 [.ref 81] h Q := by
  obtain ⟨e, rfl⟩ : ∃ e, d = e + 1 := ⟨d - 1, by omega⟩
  have G : am_GK (am_KA lx e) cd_34 := ⟨am_KA_m lx e, cm_34⟩
  refine am_KA_in (by decide) (Nat.le_of_ble_eq_true rfl) ?_
  show am_Go (am_KA lx e) (am_fetch cd_34) Q 0 [some (.ref 81), none, none, none, none, none, none, none, none, none, none, none] [] h 0 0
  have lp : ∀ (k p : Nat) (r' : Rs) (h' : am_H) (m' : Nat → Int32) (x6 x7 : Int32) (y9 y10 y11 : Option Value), p + k = n → rrun (fun i => chK (f i)) p = some r' → am_fr mrP h h' → mrM m m' → MrI h' m' r' → (r'.ma 0 ≠ 0 → x6 = nI (r'.mo 0)) → (r'.ma 1 ≠ 0 → x7 = nI (r'.mo 1)) → am_Go (am_KA lx e) (am_fetch cd_34) Q 56 [some (.ref 81), some (.int (nI (r'.v 2) - 1)), some (.int (nI (r'.v 3))), some (.int (nI (r'.v 1))), some (.int (nI (r'.ma 0) - 1)), some (.int (nI (r'.ma 1) - 1)), some (.int x6), some (.int x7), some (.int (nI p)), y9, y10, y11] [] h' 0 0 := by
    intro k
    induction k with
    | zero =>
      intro p r' h' m' x6 x7 y9 y10 y11 hp hr' hf hmm hI e6 e7
      obtain rfl : p = n := by omega
      have hM' := hI.1
      have m2 : m' 2 = nI p := (hmm 2 (by omega) (by omega)).trans hm
      obtain rfl : r' = rN := Option.some.inj (hr'.symm.trans hr)
      have ok := (rrun_ok hr').1
      obtain ⟨p0, p1, p2, p3, p4, p5, p6, p7, p8, -⟩ := id ok
      have a0 := (p8 0 (by omega)).1
      have a1 := (p8 1 (by omega)).1
      have hqq := hq h' m' hf hmm hI
      refine r_il G (pn := 58) rfl rfl rfl ?_
      refine r_ra G (pn := 59) rfl rfl rfl ?_
      refine r_get G (pn := 62) rfl rfl (by first | assumption | (repeat (first | assumption | exact am_eq (by first | assumption | exact am_eq (by assumption) | exact am_ne (by first | decide | omega) (by assumption)) | refine am_ne (by first | decide | omega) ?_))) rfl ?_
      rw [m2]
      refine r_if2 G (pn := 65) rfl rfl (fun c62 => ?_) (fun c62 => ?_)
      rotate_left
      · exact absurd (Int32.le_refl _) c62
      have neg : ∀ x : Nat, x < 1000 → ((0 : Int32) ≤ nI x - 1 ↔ x ≠ 0) := by
        intro x hx
        cases x with
        | zero => exact ⟨fun z => absurd z (by decide), fun z => absurd rfl z⟩
        | succ x =>
          rw [nI_pred]
          exact ⟨fun _ => by omega, fun _ => (nI_leI (a := 0) (by omega) (by omega)).mpr (Nat.zero_le _)⟩
      refine r_il G (pn := 354) rfl rfl rfl ?_
      refine r_if1 G (pn := 357) rfl rfl (fun c354 => ?_) (fun c354 => ?_)
      · rw [if_neg (fun z => (neg _ (by omega)).mp c354 z.1)] at hqq
        refine r_ic G (pn := 367) rfl rfl  ?_
        refine r_iret G rfl (by decide) hqq
      have z0 : r'.ma 0 = 0 := Classical.byContradiction (fun z => c354 ((neg _ (by omega)).mpr z))
      refine r_il G (pn := 359) rfl rfl rfl ?_
      refine r_if1 G (pn := 362) rfl rfl (fun c359 => ?_) (fun c359 => ?_)
      · rw [if_neg (fun z => (neg _ (by omega)).mp c359 z.2)] at hqq
        refine r_ic G (pn := 367) rfl rfl  ?_
        refine r_iret G rfl (by decide) hqq
      have z1 : r'.ma 1 = 0 := Classical.byContradiction (fun z => c359 ((neg _ (by omega)).mpr z))
      rw [if_pos ⟨z0, z1⟩] at hqq
      refine r_ic G (pn := 363) rfl rfl  ?_
      refine r_goto G rfl ?_
      refine r_iret G rfl (by decide) hqq
    | succ k ih =>
      intro p r' h' m' x6 x7 y9 y10 y11 hp hr' hf hmm hI e6 e7
      obtain ⟨hM', m19, m23, ⟨g3, k93, j3⟩, ⟨g4, k94, j4⟩, ⟨g5, k95, j5⟩⟩ := id hI
      have m2 : m' 2 = nI n := (hmm 2 (by omega) (by omega)).trans hm
      have k82 : h'[82]? = some (aI 24 f) := hf.at (fun z => by rcases z with z | z | z | z <;> omega) h82
      obtain ⟨ok, oe⟩ := rrun_ok hr'
      obtain ⟨p0, p1, p2, p3, p4, p5, p6, p7, p8, p9, p10, p11⟩ := id ok
      obtain ⟨r2, hr2⟩ := rrun_pre hr k (p + 1) (by omega)
      have hs : rstep (chK (f p)) r' = some r2 := (rrun_S hr').symm.trans hr2
      have v3 := rstep_v3 oe hs
      have ok2 := (rrun_ok hr2).1
      have tl : ∀ (h2 : am_H) (m2 : Nat → Int32) (x2 x6 x7 : Int32) (y10 y11 : Option Value), am_fr mrP h h2 → mrM m m2 → MrI h2 m2 r2 → (r2.ma 0 ≠ 0 → x6 = nI (r2.mo 0)) → (r2.ma 1 ≠ 0 → x7 = nI (r2.mo 1)) → am_Go (am_KA lx e) (am_fetch cd_34) Q 327 [some (.ref 81), some (.int (nI (r2.v 2) - 1)), some (.int x2), some (.int (nI (r2.v 1))), some (.int (nI (r2.ma 0) - 1)), some (.int (nI (r2.ma 1) - 1)), some (.int x6), some (.int x7), some (.int (nI p)), some (.int (f p)), y10, y11] [] h2 0 0 := by
        intro h2 m2 x2 x6 x7 y10 y11 hf2 hmm2 hI2 e6 e7
        refine r_il G (pn := 329) rfl rfl rfl ?_
        refine r_ins1 G (pn := 332) rfl rfl (Nat.le_of_ble_eq_true rfl) (Nat.le_of_ble_eq_true rfl) (Nat.le_of_ble_eq_true rfl) (sp_30 (by omega) ?_)
        rw [chK_plink]
        show am_Go (am_KA lx e) (am_fetch cd_34) Q 332 [some (.ref 81), some (.int (nI (r2.v 2) - 1)), some (.int x2), some (.int (nI (r2.v 1))), some (.int (nI (r2.ma 0) - 1)), some (.int (nI (r2.ma 1) - 1)), some (.int x6), some (.int x7), some (.int (nI p)), some (.int (f p)), y10, y11] [.int (if 4 ≤ chK (f p) ∧ chK (f p) < 7 then nI (chK (f p) - 3) else 0)] h2 0 0
        by_cases z : 4 ≤ chK (f p) ∧ chK (f p) < 7
        · rw [if_pos z] at v3 ⊢
          refine r_is G (pn := 334) rfl rfl (Nat.le_of_ble_eq_true rfl) ?_
          refine r_il G (pn := 336) rfl rfl rfl ?_
          refine r_if1 G (pn := 339) rfl rfl (fun c336 => ?_) (fun c336 => ?_)
          · exact absurd ((nI_leI (b := 0) (by omega) (by omega)).mp c336) (by omega)
          refine r_il G (pn := 341) rfl rfl rfl ?_
          refine r_goto G rfl ?_
          refine r_is G (pn := 346) rfl rfl (Nat.le_of_ble_eq_true rfl) ?_
          refine r_inc G (pn := 349) rfl rfl rfl (Nat.le_of_ble_eq_true rfl) ?_
          refine r_goto G rfl ?_
          rw [nI_1, ← v3]
          exact ih (p + 1) r2 h2 m2 x6 x7 _ _ _ (by omega) hr2 hf2 hmm2 hI2 e6 e7
        · rw [if_neg z] at v3 ⊢
          refine r_is G (pn := 334) rfl rfl (Nat.le_of_ble_eq_true rfl) ?_
          refine r_il G (pn := 336) rfl rfl rfl ?_
          refine r_if1 G (pn := 339) rfl rfl (fun c336 => ?_) (fun c336 => ?_)
          rotate_left
          · exact absurd (by decide) c336
          refine r_ic G (pn := 345) rfl rfl  ?_
          refine r_is G (pn := 346) rfl rfl (Nat.le_of_ble_eq_true rfl) ?_
          refine r_inc G (pn := 349) rfl rfl rfl (Nat.le_of_ble_eq_true rfl) ?_
          refine r_goto G rfl ?_
          rw [nI_1]
          have := ih (p + 1) r2 h2 m2 x6 x7 (some (.int (f p))) (some (.int 0)) y11 (by omega) hr2 hf2 hmm2 hI2 e6 e7
          rw [v3] at this
          exact this
      refine r_il G (pn := 58) rfl rfl rfl ?_
      refine r_ra G (pn := 59) rfl rfl rfl ?_
      refine r_get G (pn := 62) rfl rfl (by first | assumption | (repeat (first | assumption | exact am_eq (by first | assumption | exact am_eq (by assumption) | exact am_ne (by first | decide | omega) (by assumption)) | refine am_ne (by first | decide | omega) ?_))) rfl ?_
      rw [m2]
      refine r_if2 G (pn := 65) rfl rfl (fun c62 => ?_) (fun c62 => ?_)
      · exact absurd ((nI_leI (by omega) (by omega)).mp c62) (by omega)
      refine r_ra G (pn := 66) rfl rfl rfl ?_
      refine r_get G (pn := 69) rfl rfl (by first | assumption | (repeat (first | assumption | exact am_eq (by first | assumption | exact am_eq (by assumption) | exact am_ne (by first | decide | omega) (by assumption)) | refine am_ne (by first | decide | omega) ?_))) rfl ?_
      refine r_il G (pn := 71) rfl rfl rfl ?_
      refine r_ialdN G (pn := 72) rfl rfl k82 (by omega) (by omega) ?_
      refine r_is G (pn := 74) rfl rfl (Nat.le_of_ble_eq_true rfl) ?_
      refine r_il G (pn := 76) rfl rfl rfl ?_
      refine r_ins1 G (pn := 79) rfl rfl (Nat.le_of_ble_eq_true rfl) (Nat.le_of_ble_eq_true rfl) (Nat.le_of_ble_eq_true rfl) (sp_29 (by omega) ?_)
      rw [chK_pcode]
      show am_Go (am_KA lx e) (am_fetch cd_34) Q 79 [some (.ref 81), some (.int (nI (r'.v 2) - 1)), some (.int (nI (r'.v 3))), some (.int (nI (r'.v 1))), some (.int (nI (r'.ma 0) - 1)), some (.int (nI (r'.ma 1) - 1)), some (.int x6), some (.int x7), some (.int (nI p)), some (.int (f p)), y10, y11] [.int (if chK (f p) < 4 then nI (chK (f p)) else -1)] h' 0 0
      by_cases k4 : chK (f p) < 4
      · rw [if_pos k4]
        refine r_if1 G (pn := 82) rfl rfl (fun c79 => ?_) (fun c79 => ?_)
        · exact absurd c79 (nI_pos (by omega))
        have er : r2 = rLet (chK (f p)) r' := by
          unfold rstep at hs
          rw [if_pos k4] at hs
          exact (Option.some.inj hs).symm
        refine r_ra G (pn := 83) rfl rfl rfl ?_
        refine r_get G (pn := 86) rfl rfl (by first | assumption | (repeat (first | assumption | exact am_eq (by first | assumption | exact am_eq (by assumption) | exact am_ne (by first | decide | omega) (by assumption)) | refine am_ne (by first | decide | omega) ?_))) rfl ?_
        refine r_ra G (pn := 87) rfl rfl rfl ?_
        refine r_get G (pn := 90) rfl rfl (by first | assumption | (repeat (first | assumption | exact am_eq (by first | assumption | exact am_eq (by assumption) | exact am_ne (by first | decide | omega) (by assumption)) | refine am_ne (by first | decide | omega) ?_))) rfl ?_
        refine r_il G (pn := 92) rfl rfl rfl ?_
        rw [m19]
        refine r_ins1 G (pn := 95) rfl rfl (Nat.le_of_ble_eq_true rfl) (Nat.le_of_ble_eq_true rfl) (Nat.le_of_ble_eq_true rfl) (sp_29 (by omega) ?_)
        rw [chK_pcode, if_pos k4]
        show am_Go (am_KA lx e) (am_fetch cd_34) Q 95 [some (.ref 81), some (.int (nI (r'.v 2) - 1)), some (.int (nI (r'.v 3))), some (.int (nI (r'.v 1))), some (.int (nI (r'.ma 0) - 1)), some (.int (nI (r'.ma 1) - 1)), some (.int x6), some (.int x7), some (.int (nI p)), some (.int (f p)), y10, y11] [.int (nI (chK (f p))), .int (nI (r'.v 5)), .ref 93] h' 0 0
        refine r_iastN G (pn := 96) rfl rfl k93 (by omega) (by omega) ?_
        refine r_il G (pn := 97) rfl rfl rfl ?_
        have t110 : ∀ (h2 : am_H) (fo : Nat → Int32), am_fr mrP h h2 → h2[81]? = some (mO m') → h2[93]? = some (aI 24 (upd g3 (r'.v 5) (nI (chK (f p))))) → h2[94]? = some (aI 576 fo) → (∀ i j, i < 24 → j < 24 → fo (24 * i + j) = nI (if i < r'.v 5 + 1 ∧ j < r'.v 5 + 1 then (rLet (chK (f p)) r').od i j else 0)) → h2[95]? = some (aI 24 g5) → am_Go (am_KA lx e) (am_fetch cd_34) Q 110 [some (.ref 81), some (.int (nI (r'.v 2) - 1)), some (.int (nI (r'.v 3))), some (.int (nI (r'.v 1))), some (.int (nI (r'.ma 0) - 1)), some (.int (nI (r'.ma 1) - 1)), some (.int x6), some (.int x7), some (.int (nI p)), some (.int (f p)), y10, y11] [] h2 0 0 := by
          intro h2 fo hf2 b81 b93 b94 bo b95
          refine r_ra G (pn := 111) rfl rfl rfl ?_
          refine r_get G (pn := 114) rfl rfl (by first | assumption | (repeat (first | assumption | exact am_eq (by first | assumption | exact am_eq (by assumption) | exact am_ne (by first | decide | omega) (by assumption)) | refine am_ne (by first | decide | omega) ?_))) rfl ?_
          refine r_is G (pn := 115) rfl rfl (Nat.le_of_ble_eq_true rfl) ?_
          refine r_ra G (pn := 116) rfl rfl rfl ?_
          refine r_dup G (pn := 117) rfl rfl rfl ?_
          refine r_get G (pn := 120) rfl rfl (by first | assumption | (repeat (first | assumption | exact am_eq (by first | assumption | exact am_eq (by assumption) | exact am_ne (by first | decide | omega) (by assumption)) | refine am_ne (by first | decide | omega) ?_))) rfl ?_
          rw [m19]
          refine r_ic G (pn := 121) rfl rfl  ?_
          refine r_ib G (pn := 122) rfl rfl  ?_
          rw [nI_1]
          refine r_puti G (pn := 125) rfl rfl (by first | assumption | (repeat (first | assumption | exact am_eq (by first | assumption | exact am_eq (by assumption) | exact am_ne (by first | decide | omega) (by assumption)) | refine am_ne (by first | decide | omega) ?_))) (Nat.le_of_ble_eq_true rfl) ?_
          refine r_goto G rfl ?_
          have hI2 : MrI (h2.set 81 (mO (upd m' 19 (nI (r'.v 5 + 1))))) (upd m' 19 (nI (r'.v 5 + 1))) (rLet (chK (f p)) r') := by
            refine ⟨am_eq b81, rfl, m23, ⟨_, am_ne (by decide) b93, fun i hi => ?_⟩, ⟨fo, am_ne (by decide) b94, bo⟩, ⟨g5, am_ne (by decide) b95, j5⟩⟩
            have hi : i < r'.v 5 + 1 := hi
            show upd g3 (r'.v 5) (nI (chK (f p))) i = nI (if i = r'.v 5 then chK (f p) else r'.cd i)
            by_cases z : i = r'.v 5
            · rw [z, pk_us, if_pos rfl]
            · rw [pk_un z, if_neg z]
              exact j3 i (by omega)
          have t := tl _ (upd m' 19 (nI (r'.v 5 + 1))) (nI (r'.v 3)) x6 x7 y10 y11 (hf2.put (Or.inl rfl)) (fun i hi1 hi2 => by rw [pk_un hi1]; exact hmm i hi1 hi2) (by rw [er]; exact hI2) (by rw [er]; exact e6) (by rw [er]; exact e7)
          rw [er] at t
          have ev : nI ((rLet (chK (f p)) r').v 2) - 1 = nI (r'.v 5) := by
            show nI (r'.v 5 + 1) - 1 = _
            rw [nI_pred]
          rw [ev] at t
          exact t
        refine r_if1 G (pn := 100) rfl rfl (fun c97 => ?_) (fun c97 => ?_)
        · have z0 : r'.v 2 = 0 := by
            refine Classical.byContradiction (fun z => ?_)
            obtain ⟨w, hw⟩ : ∃ w, r'.v 2 = w + 1 := ⟨r'.v 2 - 1, by omega⟩
            rw [hw, nI_pred] at c97
            exact absurd c97 (nI_pos (by omega))
          refine t110 _ g4 (hf.put (Or.inr (Or.inl rfl))) (am_ne (by decide) hM') (am_eq k93) (am_ne (by decide) k94) (fun i j hi hj => ?_) (am_ne (by decide) k95)
          rw [j4 i j hi hj]
          show _ = nI (if _ then (if r'.v 2 = 0 then _ else _ : Nat → Nat → Nat) i j else 0)
          rw [if_pos z0]
          congr 1
          by_cases z : i < r'.v 5 ∧ j < r'.v 5
          · rw [if_pos z, if_pos (by omega), if_neg (by omega)]
          · rw [if_neg z]
            split
            · rw [if_pos (by omega)]
            · rfl
        · have z0 : ¬ r'.v 2 = 0 := fun z => c97 (by rw [z]; decide)
          obtain ⟨w, hw⟩ : ∃ w, r'.v 2 = w + 1 := ⟨r'.v 2 - 1, by omega⟩
          refine r_ra G (pn := 101) rfl rfl rfl ?_
          refine r_il G (pn := 102) rfl rfl rfl ?_
          refine r_ra G (pn := 103) rfl rfl rfl ?_
          refine r_get G (pn := 106) rfl rfl (am_ne (by decide) hM') rfl ?_
          refine r_il G (pn := 107) rfl rfl rfl ?_
          show am_Go (am_KA lx e) (am_fetch cd_34) Q 107 [some (.ref 81), some (.int (nI (r'.v 2) - 1)), some (.int (nI (r'.v 3))), some (.int (nI (r'.v 1))), some (.int (nI (r'.ma 0) - 1)), some (.int (nI (r'.ma 1) - 1)), some (.int x6), some (.int x7), some (.int (nI p)), some (.int (f p)), y10, y11] [.int (nI (r'.v 3)), .int (m' 19), .int (nI (r'.v 2) - 1), .ref 81] (h'.set 93 (aI 24 (upd g3 (r'.v 5) (nI (chK (f p)))))) 0 0
          rw [m19]
          have e97 : nI (r'.v 2) - 1 = nI w := by rw [hw, nI_pred]
          rw [e97] at t110 ⊢
          have oz : (if w < r'.v 5 ∧ r'.v 5 < r'.v 5 then r'.od w (r'.v 5) else 0) = 0 := if_neg (by omega)
          refine r_inv4 G (pn := 110) rfl rfl (am_ne (by decide) hM') (Nat.le_of_ble_eq_true rfl) (Nat.le_of_ble_eq_true rfl) (Nat.le_of_ble_eq_true rfl) (sp_33 (by omega) (od := fun i j => if i < r'.v 5 ∧ j < r'.v 5 then r'.od i j else 0) (am_ne (by decide) hM') (am_ne (by decide) k94) j4 (by omega) (by omega) (by rw [oz]; omega) (fun z => ?_) (fun fo' z hfo => ?_))
          · rw [oz] at z
            omega
          · refine t110 _ fo' ((hf.put (Or.inr (Or.inl rfl))).put (Or.inr (Or.inr (Or.inl rfl)))) (am_ne (by decide) (am_ne (by decide) hM')) (am_ne (by decide) (am_eq k93)) (am_eq (am_ne (by decide) k94)) (fun i j hi hj => ?_) (am_ne (by decide) (am_ne (by decide) k95))
            rw [hfo i j hi hj]
            show nI (oset _ _ _ _ i j) = nI (if _ then (if r'.v 2 = 0 then _ else _ : Nat → Nat → Nat) i j else 0)
            rw [if_neg z0, show r'.v 2 - 1 = w by omega]
            congr 1
            unfold oset
            by_cases y : (i = w ∧ j = r'.v 5) ∨ (i = r'.v 5 ∧ j = w)
            · rw [if_pos y, if_pos (by omega), if_pos y]
            · rw [if_neg y, if_neg y]
              dsimp only
              by_cases z : i < r'.v 5 ∧ j < r'.v 5
              · rw [if_pos z, if_pos (by omega), if_neg (by omega)]
              · rw [if_neg z]
                split
                · rw [if_pos (by omega)]
                · rfl
      rw [if_neg k4]
      refine r_if1 G (pn := 82) rfl rfl (fun c79 => ?_) (fun c79 => ?_)
      rotate_left
      · exact absurd (by decide) c79
      refine r_il G (pn := 130) rfl rfl rfl ?_
      refine r_ic G (pn := 132) rfl rfl  ?_
      refine r_if2 G (pn := 135) rfl rfl (fun c132 => ?_) (fun c132 => ?_)
      rotate_left
      · have k9 := (chK_ob _).mp (Classical.byContradiction c132)
        have er : r2 = rOpen r' := by
          unfold rstep at hs
          rw [if_neg k4, if_neg (by omega), if_neg (by omega), if_pos (by omega)] at hs
          split at hs
          · exact (Option.some.inj hs).symm
          · cases hs
        refine r_ra G (pn := 136) rfl rfl rfl ?_
        refine r_get G (pn := 139) rfl rfl (by first | assumption | (repeat (first | assumption | exact am_eq (by first | assumption | exact am_eq (by assumption) | exact am_ne (by first | decide | omega) (by assumption)) | refine am_ne (by first | decide | omega) ?_))) rfl ?_
        refine r_il G (pn := 140) rfl rfl rfl ?_
        refine r_il G (pn := 141) rfl rfl rfl ?_
        refine r_iastN G (pn := 142) rfl rfl k95 (by omega) (by omega) ?_
        refine r_inc G (pn := 145) rfl rfl rfl (Nat.le_of_ble_eq_true rfl) ?_
        rw [nI_1]
        refine r_goto G rfl ?_
        have t := tl (h'.set 95 (aI 24 (upd g5 (r'.v 1) (nI (r'.v 2) - 1)))) m' (nI (r'.v 3)) x6 x7 y10 y11 (hf.put (Or.inr (Or.inr (Or.inr rfl)))) hmm (by
          rw [er]
          refine ⟨am_ne (by decide) hM', m19, m23, ⟨g3, am_ne (by decide) k93, j3⟩, ⟨g4, am_ne (by decide) k94, j4⟩, ⟨_, am_eq k95, fun i hi => ?_⟩⟩
          have hi : i < r'.v 1 + 1 := hi
          show upd g5 (r'.v 1) (nI (r'.v 2) - 1) i = nI (uN r'.sk (r'.v 1) (r'.v 2) i) - 1
          by_cases z : i = r'.v 1
          · rw [z, pk_us, uN_s]
          · rw [pk_un z, uN_n z]
            exact j5 i (by omega)) (by rw [er]; exact e6) (by rw [er]; exact e7)
        rw [er] at t
        exact t
      refine r_il G (pn := 150) rfl rfl rfl ?_
      refine r_ic G (pn := 152) rfl rfl  ?_
      refine r_if2 G (pn := 155) rfl rfl (fun c152 => ?_) (fun c152 => ?_)
      rotate_left
      · have k10 := (chK_cb _).mp (Classical.byContradiction c152)
        have er : r2 = rClose r' ∧ r'.v 1 ≠ 0 := by
          unfold rstep at hs
          rw [if_neg k4, if_neg (by omega), if_neg (by omega), if_neg (by omega), if_pos (by omega)] at hs
          split at hs
          · rename_i z
            exact ⟨(Option.some.inj hs).symm, z.2⟩
          · cases hs
        obtain ⟨w, hw⟩ : ∃ w, r'.v 1 = w + 1 := ⟨r'.v 1 - 1, by have := er.2; omega⟩
        refine r_inc G (pn := 158) rfl rfl rfl (Nat.le_of_ble_eq_true rfl) ?_
        refine r_ra G (pn := 159) rfl rfl rfl ?_
        refine r_get G (pn := 162) rfl rfl (by first | assumption | (repeat (first | assumption | exact am_eq (by first | assumption | exact am_eq (by assumption) | exact am_ne (by first | decide | omega) (by assumption)) | refine am_ne (by first | decide | omega) ?_))) rfl ?_
        refine r_il G (pn := 163) rfl rfl rfl ?_
        rw [show nI (r'.v 1) + (-1) = nI w by rw [show nI (r'.v 1) + (-1) = nI (r'.v 1) - 1 from (Int32.sub_eq_add_neg _ _).symm, hw, nI_pred]]
        refine r_ialdN G (pn := 164) rfl rfl k95 (by omega) (by omega) ?_
        refine r_is G (pn := 165) rfl rfl (Nat.le_of_ble_eq_true rfl) ?_
        refine r_goto G rfl ?_
        rw [j5 w (by omega)]
        have t := tl h' m' (nI (r'.v 3)) x6 x7 y10 y11 hf hmm (by
          rw [er.1]
          refine ⟨hM', m19, m23, ⟨g3, k93, j3⟩, ⟨g4, k94, j4⟩, ⟨g5, k95, fun i hi => ?_⟩⟩
          have hi : i < r'.v 1 - 1 := hi
          exact j5 i (by omega)) (by rw [er.1]; exact e6) (by rw [er.1]; exact e7)
        rw [er.1] at t
        have q1 : (rClose r').v 1 = w := by show r'.v 1 - 1 = w; omega
        have q2 : (rClose r').v 2 = r'.sk w := by show r'.sk (r'.v 1 - 1) = r'.sk w; rw [show r'.v 1 - 1 = w by omega]
        rw [q1, q2] at t
        exact t
      have mark : ∀ q : Nat, q < 2 → chK (f p) = 7 + q → am_Go (am_KA lx e) (am_fetch cd_34) Q 182 [some (.ref 81), some (.int (nI (r'.v 2) - 1)), some (.int (nI (r'.v 3))), some (.int (nI (r'.v 1))), some (.int (nI (r'.ma 0) - 1)), some (.int (nI (r'.ma 1) - 1)), some (.int x6), some (.int x7), some (.int (nI p)), some (.int (f p)), y10, y11] [] h' 0 0 := by
        intro q hq2 kq
        have er : r2 = rMark q r' ∧ (r'.v 0 = 3 ∨ r'.v 0 = 4) := by
          unfold rstep at hs
          rw [if_neg k4, if_neg (by omega), if_pos (by omega)] at hs
          split at hs
          · rename_i z
            rw [show chK (f p) - 7 = q by omega] at hs
            exact ⟨(Option.some.inj hs).symm, z⟩
          · cases hs
        obtain ⟨er, hst⟩ := er
        have hv2 := p6 (by omega)
        obtain ⟨u, hu⟩ : ∃ u, r'.v 2 = u + 1 := ⟨r'.v 2 - 1, by omega⟩
        have a249 : ∀ (h2 : am_H) (m2 : Nat → Int32) (y11 : Option Value), am_fr mrP h h2 → mrM m m2 → MrI h2 m2 r2 → am_Go (am_KA lx e) (am_fetch cd_34) Q 249 [some (.ref 81), some (.int (nI (r'.v 2) - 1)), some (.int (nI (r'.v 3))), some (.int (nI (r'.v 1))), some (.int (nI (r'.ma 0) - 1)), some (.int (nI (r'.ma 1) - 1)), some (.int x6), some (.int x7), some (.int (nI p)), some (.int (f p)), some (.int (nI (r'.ma q) - 1)), y11] [] h2 0 0 := by
          intro h2 m2 y11 hf2 hmm2 hI2
          have ev1 : r2.v 1 = r'.v 1 := by rw [er]; exact rMark_01.2
          have ev2 : r2.v 2 = r'.v 2 := by
            rw [er]
            unfold rMark
            split
            · rfl
            · show jnV _ _ _ _ 2 = _
              rw [(jn_ok).2 2 (by omega)]
              split <;> rfl
          have ema : ∀ i, r2.ma i = if i = q then (if r'.ma q = 0 then r'.v 2 else 0) else r'.ma i := by
            intro i
            rw [er]
            unfold rMark
            by_cases z : r'.ma q = 0
            · rw [if_pos z, if_pos z]; rfl
            · rw [if_neg z, if_neg z]; rfl
          have emo : ∀ i, r2.ma i ≠ 0 → r2.mo i = if i = q then r'.v 3 else r'.mo i := by
            intro i hi
            rw [ema i] at hi
            rw [er]
            unfold rMark
            by_cases z : r'.ma q = 0
            · rw [if_pos z]; rfl
            · rw [if_neg z]
              by_cases y : i = q
              · rw [if_pos y, if_neg z] at hi
                exact absurd rfl hi
              · rw [if_neg y]
          have neg : r'.ma q ≠ 0 → ¬ nI (r'.ma q) - 1 < 0 := by
            intro z
            obtain ⟨w, hw⟩ : ∃ w, r'.ma q = w + 1 := ⟨r'.ma q - 1, by omega⟩
            rw [hw, nI_pred]
            exact nI_pos (by have := (p8 q hq2).1; omega)
          have pos : r'.ma q = 0 → nI (r'.ma q) - 1 < 0 := by
            intro z
            rw [z]
            decide
          have nm : nI (if r'.ma q = 0 then r'.v 2 else 0) - 1 = if nI (r'.ma q) - 1 < 0 then nI (r'.v 2) - 1 else -1 := by
            by_cases z : r'.ma q = 0
            · rw [if_pos z, if_pos (pos z)]
            · rw [if_neg z, if_neg (neg z)]; rfl
          rcases (show q = 0 ∨ q = 1 by omega) with q0 | q1
          · subst q0
            have c49 : f p = 49 := (chK_49 _).mpr kq
            have t := fun y10 y11 => tl h2 m2 (nI (r'.v 3)) (nI (r'.v 3)) x7 y10 y11 hf2 hmm2 hI2 (fun z => by rw [emo 0 z, if_pos rfl]) (fun z => by
              rw [emo 1 z, if_neg (by omega)]
              rw [ema 1, if_neg (by omega)] at z
              exact e7 z)
            rw [ev1, ev2, ema 0, ema 1, if_pos rfl, if_neg (show ¬ 1 = 0 by omega), nm] at t
            refine r_il G (pn := 251) rfl rfl rfl ?_
            refine r_ic G (pn := 253) rfl rfl  ?_
            refine r_if2 G (pn := 256) rfl rfl (fun c253 => ?_) (fun c253 => ?_)
            rotate_left
            · rw [c49] at c253; exact absurd (by decide) c253
            have k271 : ∀ x : Int32, x = (if nI (r'.ma 0) - 1 < 0 then nI (r'.v 2) - 1 else -1) → am_Go (am_KA lx e) (am_fetch cd_34) Q 271 [some (.ref 81), some (.int (nI (r'.v 2) - 1)), some (.int (nI (r'.v 3))), some (.int (nI (r'.v 1))), some (.int (nI (r'.ma 0) - 1)), some (.int (nI (r'.ma 1) - 1)), some (.int x6), some (.int x7), some (.int (nI p)), some (.int (f p)), some (.int (nI (r'.ma 0) - 1)), y11] [.int x] h2 0 0 := by
              intro x hx
              refine r_is G (pn := 273) rfl rfl (Nat.le_of_ble_eq_true rfl) ?_
              refine r_il G (pn := 275) rfl rfl rfl ?_
              refine r_ic G (pn := 277) rfl rfl  ?_
              refine r_if2 G (pn := 280) rfl rfl (fun c277 => ?_) (fun c277 => ?_)
              · exact absurd c49 c277
              refine r_il G (pn := 282) rfl rfl rfl ?_
              refine r_goto G rfl ?_
              refine r_is G (pn := 297) rfl rfl (Nat.le_of_ble_eq_true rfl) ?_
              refine r_il G (pn := 299) rfl rfl rfl ?_
              refine r_ic G (pn := 301) rfl rfl  ?_
              refine r_if2 G (pn := 304) rfl rfl (fun c301 => ?_) (fun c301 => ?_)
              · exact absurd c49 c301
              refine r_il G (pn := 305) rfl rfl rfl ?_
              refine r_goto G rfl ?_
              refine r_is G (pn := 312) rfl rfl (Nat.le_of_ble_eq_true rfl) ?_
              refine r_il G (pn := 314) rfl rfl rfl ?_
              refine r_ic G (pn := 316) rfl rfl  ?_
              refine r_if2 G (pn := 319) rfl rfl (fun c316 => ?_) (fun c316 => ?_)
              rotate_left
              · rw [c49] at c316; exact absurd (by decide) c316
              refine r_il G (pn := 325) rfl rfl rfl ?_
              refine r_is G (pn := 327) rfl rfl (Nat.le_of_ble_eq_true rfl) ?_
              rw [hx]
              exact t _ _
            refine r_il G (pn := 263) rfl rfl rfl ?_
            refine r_if1 G (pn := 266) rfl rfl (fun c263 => ?_) (fun c263 => ?_)
            · refine r_il G (pn := 271) rfl rfl rfl ?_
              exact k271 _ (by rw [if_pos c263])
            · refine r_ic G (pn := 267) rfl rfl  ?_
              refine r_goto G rfl ?_
              exact k271 _ (by rw [if_neg c263])
          · subst q1
            have c50 : f p = 50 := (chK_50 _).mpr kq
            have t := fun y10 y11 => tl h2 m2 (nI (r'.v 3)) x6 (nI (r'.v 3)) y10 y11 hf2 hmm2 hI2 (fun z => by
              rw [emo 0 z, if_neg (by omega)]
              rw [ema 0, if_neg (by omega)] at z
              exact e6 z) (fun z => by rw [emo 1 z, if_pos rfl])
            rw [ev1, ev2, ema 0, ema 1, if_pos rfl, if_neg (show ¬ 0 = 1 by omega), nm] at t
            refine r_il G (pn := 251) rfl rfl rfl ?_
            refine r_ic G (pn := 253) rfl rfl  ?_
            refine r_if2 G (pn := 256) rfl rfl (fun c253 => ?_) (fun c253 => ?_)
            · exact absurd c50 c253
            refine r_il G (pn := 258) rfl rfl rfl ?_
            refine r_goto G rfl ?_
            refine r_is G (pn := 273) rfl rfl (Nat.le_of_ble_eq_true rfl) ?_
            refine r_il G (pn := 275) rfl rfl rfl ?_
            refine r_ic G (pn := 277) rfl rfl  ?_
            refine r_if2 G (pn := 280) rfl rfl (fun c277 => ?_) (fun c277 => ?_)
            rotate_left
            · rw [c50] at c277; exact absurd (by decide) c277
            have k295 : ∀ x : Int32, x = (if nI (r'.ma 1) - 1 < 0 then nI (r'.v 2) - 1 else -1) → am_Go (am_KA lx e) (am_fetch cd_34) Q 295 [some (.ref 81), some (.int (nI (r'.v 2) - 1)), some (.int (nI (r'.v 3))), some (.int (nI (r'.v 1))), some (.int (nI (r'.ma 0) - 1)), some (.int (nI (r'.ma 1) - 1)), some (.int x6), some (.int x7), some (.int (nI p)), some (.int (f p)), some (.int (nI (r'.ma 1) - 1)), y11] [.int x] h2 0 0 := by
              intro x hx
              refine r_is G (pn := 297) rfl rfl (Nat.le_of_ble_eq_true rfl) ?_
              refine r_il G (pn := 299) rfl rfl rfl ?_
              refine r_ic G (pn := 301) rfl rfl  ?_
              refine r_if2 G (pn := 304) rfl rfl (fun c301 => ?_) (fun c301 => ?_)
              rotate_left
              · rw [c50] at c301; exact absurd (by decide) c301
              refine r_il G (pn := 310) rfl rfl rfl ?_
              refine r_is G (pn := 312) rfl rfl (Nat.le_of_ble_eq_true rfl) ?_
              refine r_il G (pn := 314) rfl rfl rfl ?_
              refine r_ic G (pn := 316) rfl rfl  ?_
              refine r_if2 G (pn := 319) rfl rfl (fun c316 => ?_) (fun c316 => ?_)
              · exact absurd c50 c316
              refine r_il G (pn := 320) rfl rfl rfl ?_
              refine r_goto G rfl ?_
              refine r_is G (pn := 327) rfl rfl (Nat.le_of_ble_eq_true rfl) ?_
              rw [hx]
              exact t _ _
            refine r_il G (pn := 287) rfl rfl rfl ?_
            refine r_if1 G (pn := 290) rfl rfl (fun c287 => ?_) (fun c287 => ?_)
            · refine r_il G (pn := 295) rfl rfl rfl ?_
              exact k295 _ (by rw [if_pos c287])
            · refine r_ic G (pn := 291) rfl rfl  ?_
              refine r_goto G rfl ?_
              exact k295 _ (by rw [if_neg c287])
        have a214 : ∀ x11 : Int32, (r'.ma q ≠ 0 → x11 = nI (r'.mo q)) → am_Go (am_KA lx e) (am_fetch cd_34) Q 214 [some (.ref 81), some (.int (nI (r'.v 2) - 1)), some (.int (nI (r'.v 3))), some (.int (nI (r'.v 1))), some (.int (nI (r'.ma 0) - 1)), some (.int (nI (r'.ma 1) - 1)), some (.int x6), some (.int x7), some (.int (nI p)), some (.int (f p)), some (.int (nI (r'.ma q) - 1)), some (.int x11)] [] h' 0 0 := by
          intro x11 hx11
          refine r_il G (pn := 216) rfl rfl rfl ?_
          refine r_if1 G (pn := 219) rfl rfl (fun c216 => ?_) (fun c216 => ?_)
          · have z0 : r'.ma q = 0 := by
              refine Classical.byContradiction (fun z => ?_)
              obtain ⟨w, hw⟩ : ∃ w, r'.ma q = w + 1 := ⟨r'.ma q - 1, by omega⟩
              rw [hw, nI_pred] at c216
              exact absurd c216 (nI_pos (by have := (p8 q hq2).1; omega))
            refine a249 h' m' _ hf hmm ?_
            rw [er]
            unfold rMark
            rw [if_pos z0]
            exact hI
          · have z0 : r'.ma q ≠ 0 := fun z => c216 (by rw [z]; decide)
            obtain ⟨w, hw⟩ : ∃ w, r'.ma q = w + 1 := ⟨r'.ma q - 1, by omega⟩
            have hwl := (p8 q hq2).1
            have t238 : ∀ x : Nat, x ≤ 1 → (x = if r'.mo q = r'.v 3 then r'.v 4 else 1) → am_Go (am_KA lx e) (am_fetch cd_34) Q 238 [some (.ref 81), some (.int (nI (r'.v 2) - 1)), some (.int (nI (r'.v 3))), some (.int (nI (r'.v 1))), some (.int (nI (r'.ma 0) - 1)), some (.int (nI (r'.ma 1) - 1)), some (.int x6), some (.int x7), some (.int (nI p)), some (.int (f p)), some (.int (nI (r'.ma q) - 1)), some (.int x11)] [.int (nI x), .ref 81] h' 0 0 := by
              intro x hx he
              refine r_putz G (pn := 241) rfl rfl hM' (Nat.le_of_ble_eq_true rfl) (by rcases (show x = 0 ∨ x = 1 by omega) with z | z <;> subst z <;> first | exact Or.inl rfl | exact Or.inr rfl) ?_
              refine r_ra G (pn := 242) rfl rfl rfl ?_
              refine r_il G (pn := 244) rfl rfl rfl ?_
              refine r_il G (pn := 245) rfl rfl rfl ?_
              refine r_il G (pn := 246) rfl rfl rfl ?_
              have hJ : MrI (h'.set 81 (mO (upd m' 23 (nI x)))) (upd m' 23 (nI x)) (⟨uN r'.v 4 x, r'.sk, r'.ma, r'.mo, r'.cd, r'.od⟩ : Rs) := ⟨am_eq hM', m19, rfl, ⟨g3, am_ne (by decide) k93, j3⟩, ⟨g4, am_ne (by decide) k94, j4⟩, ⟨g5, am_ne (by decide) k95, j5⟩⟩
              show am_Go (am_KA lx e) (am_fetch cd_34) Q 246 [some (.ref 81), some (.int (nI (r'.v 2) - 1)), some (.int (nI (r'.v 3))), some (.int (nI (r'.v 1))), some (.int (nI (r'.ma 0) - 1)), some (.int (nI (r'.ma 1) - 1)), some (.int x6), some (.int x7), some (.int (nI p)), some (.int (f p)), some (.int (nI (r'.ma q) - 1)), some (.int x11)] [.int (nI (r'.v 3)), .int (nI (r'.v 2) - 1), .int (nI (r'.ma q) - 1), .ref 81] (h'.set 81 (mO (upd m' 23 (nI x)))) 0 0
              have e97 : nI (r'.v 2) - 1 = nI u := by rw [hu, nI_pred]
              have e98 : nI (r'.ma q) - 1 = nI w := by rw [hw, nI_pred]
              rw [e97, e98] at a249 ⊢
              refine r_inv4 G (pn := 249) rfl rfl (am_eq hM') (Nat.le_of_ble_eq_true rfl) (Nat.le_of_ble_eq_true rfl) (Nat.le_of_ble_eq_true rfl) (sp_33m (by omega) hJ (by show r'.v 5 ≤ 24; omega) (by show w < r'.v 5; omega) (by show u < r'.v 5; omega) (fun i j hi hj => (p10 i j hi hj).1) (fun h2 m2 hf2 hmm2 hI2 => ?_))
              refine a249 h2 m2 (some (.int x11)) ((hf.put (Or.inl rfl)).tr hf2) (fun i h1 h2 => by rw [hmm2 i h1 h2, pk_un h2]; exact hmm i h1 h2) ?_
              rw [er]
              unfold rMark
              rw [if_neg z0, hw, hu, Nat.add_sub_cancel, Nat.add_sub_cancel]
              have e4 : uN r'.v 4 x = if r'.mo q = r'.v 3 then r'.v else uN r'.v 4 1 := by
                rw [he]
                split
                · funext i
                  by_cases z : i = 4
                  · rw [z, uN_s]
                  · rw [uN_n z]
                · rfl
              rw [← e4]
              exact hI2
            refine r_ra G (pn := 220) rfl rfl rfl ?_
            refine r_ra G (pn := 221) rfl rfl rfl ?_
            refine r_get G (pn := 224) rfl rfl (by first | assumption | (repeat (first | assumption | exact am_eq (by first | assumption | exact am_eq (by assumption) | exact am_ne (by first | decide | omega) (by assumption)) | refine am_ne (by first | decide | omega) ?_))) rfl ?_
            rw [m23]
            refine r_if1 G (pn := 227) rfl rfl (fun c224 => ?_) (fun c224 => ?_)
            · have z4 : r'.v 4 = 1 := by
                have : r'.v 4 ≠ 0 := fun z => c224 (by rw [z]; rfl)
                omega
              refine r_ic G (pn := 234) rfl rfl  ?_
              refine r_goto G rfl ?_
              exact t238 1 (by omega) (by rw [z4]; split <;> rfl)
            · have z4 : r'.v 4 = 0 := (nI_eq (b := 0) (by omega) (by omega)).mp (Classical.byContradiction c224)
              refine r_il G (pn := 229) rfl rfl rfl ?_
              refine r_il G (pn := 230) rfl rfl rfl ?_
              rw [hx11 z0]
              have := (p8 q hq2).2
              refine r_if2 G (pn := 233) rfl rfl (fun c230 => ?_) (fun c230 => ?_)
              · have zm : r'.mo q = r'.v 3 := (nI_eq (by omega) (by omega)).mp c230
                refine r_ic G (pn := 238) rfl rfl  ?_
                exact hx11 z0 ▸ t238 0 (by omega) (by rw [if_pos zm, z4])
              · have zm : ¬ r'.mo q = r'.v 3 := fun z => c230 (by rw [z])
                refine r_ic G (pn := 234) rfl rfl  ?_
                refine r_goto G rfl ?_
                exact hx11 z0 ▸ t238 1 (by omega) (by rw [if_neg zm])
        rcases (show q = 0 ∨ q = 1 by omega) with q0 | q1
        · subst q0
          have c49 : f p = 49 := (chK_49 _).mpr kq
          refine r_il G (pn := 184) rfl rfl rfl ?_
          refine r_ic G (pn := 186) rfl rfl  ?_
          refine r_if2 G (pn := 189) rfl rfl (fun c186 => ?_) (fun c186 => ?_)
          · exact absurd c49 c186
          refine r_il G (pn := 191) rfl rfl rfl ?_
          refine r_goto G rfl ?_
          refine r_is G (pn := 198) rfl rfl (Nat.le_of_ble_eq_true rfl) ?_
          refine r_il G (pn := 200) rfl rfl rfl ?_
          refine r_ic G (pn := 202) rfl rfl  ?_
          refine r_if2 G (pn := 205) rfl rfl (fun c202 => ?_) (fun c202 => ?_)
          · exact absurd c49 c202
          refine r_il G (pn := 207) rfl rfl rfl ?_
          refine r_goto G rfl ?_
          refine r_is G (pn := 214) rfl rfl (Nat.le_of_ble_eq_true rfl) ?_
          exact a214 x6 e6
        · subst q1
          have c50 : f p = 50 := (chK_50 _).mpr kq
          refine r_il G (pn := 184) rfl rfl rfl ?_
          refine r_ic G (pn := 186) rfl rfl  ?_
          refine r_if2 G (pn := 189) rfl rfl (fun c186 => ?_) (fun c186 => ?_)
          rotate_left
          · rw [c50] at c186; exact absurd (by decide) c186
          refine r_il G (pn := 196) rfl rfl rfl ?_
          refine r_is G (pn := 198) rfl rfl (Nat.le_of_ble_eq_true rfl) ?_
          refine r_il G (pn := 200) rfl rfl rfl ?_
          refine r_ic G (pn := 202) rfl rfl  ?_
          refine r_if2 G (pn := 205) rfl rfl (fun c202 => ?_) (fun c202 => ?_)
          rotate_left
          · rw [c50] at c202; exact absurd (by decide) c202
          refine r_il G (pn := 212) rfl rfl rfl ?_
          refine r_is G (pn := 214) rfl rfl (Nat.le_of_ble_eq_true rfl) ?_
          exact a214 x7 e7
      refine r_il G (pn := 170) rfl rfl rfl ?_
      refine r_ic G (pn := 172) rfl rfl  ?_
      refine r_if2 G (pn := 175) rfl rfl (fun c172 => ?_) (fun c172 => ?_)
      · exact mark 0 (by omega) ((chK_49 _).mp c172)
      refine r_il G (pn := 177) rfl rfl rfl ?_
      refine r_ic G (pn := 179) rfl rfl  ?_
      refine r_if2 G (pn := 182) rfl rfl (fun c179 => ?_) (fun c179 => ?_)
      rotate_left
      · exact mark 1 (by omega) ((chK_50 _).mp (Classical.byContradiction c179))
      have k7 : chK (f p) < 7 := by
        refine Classical.byContradiction (fun z => ?_)
        have n7 : chK (f p) ≠ 7 := fun y => c172 ((chK_49 _).mpr y)
        have n8 : chK (f p) ≠ 8 := fun y => c179 ((chK_50 _).mpr y)
        have n9 : chK (f p) ≠ 9 := fun y => c132 ((chK_ob _).mpr y)
        have n10 : chK (f p) ≠ 10 := fun y => c152 ((chK_cb _).mpr y)
        unfold rstep at hs
        rw [if_neg k4, if_neg z, if_neg (by omega), if_neg (by omega), if_neg (by omega)] at hs
        cases hs
      have er : r2 = rLink (chK (f p) - 3) r' := by
        unfold rstep at hs
        rw [if_neg k4, if_pos k7] at hs
        split at hs
        · exact (Option.some.inj hs).symm
        · cases hs
      have t := tl h' m' (nI (r'.v 3)) x6 x7 y10 y11 hf hmm (by rw [er]; exact hI) (by rw [er]; exact e6) (by rw [er]; exact e7)
      rw [er] at t
      exact t
  have zl : ∀ (k i : Nat) (h' : am_H) (m' : Nat → Int32) (g : Nat → Int32) (y9 y10 y11 : Option Value), i + k = 576 → am_fr mrP h h' → mrM m m' → h'[81]? = some (mO m') → m' 19 = nI 0 → m' 23 = nI 0 → h'[93]? = some (aI 24 f3) → h'[94]? = some (aI 576 g) → h'[95]? = some (aI 24 f5) → (∀ q, q < i → g q = nI 0) → am_Go (am_KA lx e) (am_fetch cd_34) Q 31 [some (.ref 81), some (.int (-1)), some (.int 1), some (.int 0), some (.int (-1)), some (.int (-1)), some (.int 0), some (.int 0), some (.int (nI i)), y9, y10, y11] [] h' 0 0 := by
    intro k
    induction k with
    | zero =>
      intro i h' m' g y9 y10 y11 hi hf hmm hM' m19 m23 k93 k94 k95 hg
      obtain rfl : i = 576 := by omega
      refine r_il G (pn := 33) rfl rfl rfl ?_
      refine r_ic G (pn := 36) rfl rfl  ?_
      refine r_if2 G (pn := 39) rfl rfl (fun c36 => ?_) (fun c36 => ?_)
      rotate_left
      · exact absurd (by decide) c36
      refine r_ic G (pn := 54) rfl rfl  ?_
      refine r_is G (pn := 56) rfl rfl (Nat.le_of_ble_eq_true rfl) ?_
      refine lp n 0 rs0 h' m' 0 0 y9 y10 y11 (by omega) rfl hf hmm ⟨hM', m19, m23, ⟨f3, k93, fun i hi => absurd hi (Nat.not_lt_zero i)⟩, ⟨g, k94, fun i j hi hj => ?_⟩, ⟨f5, k95, fun i hi => absurd hi (Nat.not_lt_zero i)⟩⟩ (fun z => absurd rfl z) (fun z => absurd rfl z)
      rw [hg _ (by omega), if_neg (fun z => Nat.not_lt_zero _ z.1)]
    | succ k ih =>
      intro i h' m' g y9 y10 y11 hi hf hmm hM' m19 m23 k93 k94 k95 hg
      refine r_il G (pn := 33) rfl rfl rfl ?_
      refine r_ic G (pn := 36) rfl rfl  ?_
      refine r_if2 G (pn := 39) rfl rfl (fun c36 => ?_) (fun c36 => ?_)
      · exact absurd ((nI_leI (a := 576) (by omega) (by omega)).mp c36) (by omega)
      refine r_ra G (pn := 40) rfl rfl rfl ?_
      refine r_get G (pn := 43) rfl rfl (by first | assumption | (repeat (first | assumption | exact am_eq (by first | assumption | exact am_eq (by assumption) | exact am_ne (by first | decide | omega) (by assumption)) | refine am_ne (by first | decide | omega) ?_))) rfl ?_
      refine r_il G (pn := 45) rfl rfl rfl ?_
      refine r_ic G (pn := 46) rfl rfl  ?_
      refine r_iastN G (pn := 47) rfl rfl k94 (by omega) (by omega) ?_
      refine r_inc G (pn := 50) rfl rfl rfl (Nat.le_of_ble_eq_true rfl) ?_
      refine r_goto G rfl ?_
      rw [nI_1]
      refine ih (i + 1) _ m' _ y9 y10 y11 (by omega) (hf.put (Or.inr (Or.inr (Or.inl rfl)))) hmm (am_ne (by decide) hM') m19 m23 (am_ne (by decide) k93) (am_eq k94) (am_ne (by decide) k95) (fun q hq2 => ?_)
      by_cases z : q = i
      · rw [z, pk_us]; rfl
      · rw [pk_un z]
        exact hg q (by omega)
  refine r_ic G (pn := 1) rfl rfl  ?_
  refine r_is G (pn := 2) rfl rfl (Nat.le_of_ble_eq_true rfl) ?_
  refine r_ic G (pn := 3) rfl rfl  ?_
  refine r_is G (pn := 4) rfl rfl (Nat.le_of_ble_eq_true rfl) ?_
  refine r_ic G (pn := 5) rfl rfl  ?_
  refine r_is G (pn := 6) rfl rfl (Nat.le_of_ble_eq_true rfl) ?_
  refine r_ic G (pn := 7) rfl rfl  ?_
  refine r_is G (pn := 9) rfl rfl (Nat.le_of_ble_eq_true rfl) ?_
  refine r_ic G (pn := 10) rfl rfl  ?_
  refine r_is G (pn := 12) rfl rfl (Nat.le_of_ble_eq_true rfl) ?_
  refine r_ic G (pn := 13) rfl rfl  ?_
  refine r_is G (pn := 15) rfl rfl (Nat.le_of_ble_eq_true rfl) ?_
  refine r_ic G (pn := 16) rfl rfl  ?_
  refine r_is G (pn := 18) rfl rfl (Nat.le_of_ble_eq_true rfl) ?_
  refine r_ra G (pn := 19) rfl rfl rfl ?_
  refine r_ic G (pn := 20) rfl rfl  ?_
  refine r_puti G (pn := 23) rfl rfl (by first | assumption | (repeat (first | assumption | exact am_eq (by first | assumption | exact am_eq (by assumption) | exact am_ne (by first | decide | omega) (by assumption)) | refine am_ne (by first | decide | omega) ?_))) (Nat.le_of_ble_eq_true rfl) ?_
  refine r_ra G (pn := 24) rfl rfl rfl ?_
  refine r_ic G (pn := 25) rfl rfl  ?_
  refine r_putz G (pn := 28) rfl rfl (am_eq hM) (Nat.le_of_ble_eq_true rfl) (Or.inl rfl) ?_
  refine r_ic G (pn := 29) rfl rfl  ?_
  refine r_is G (pn := 31) rfl rfl (Nat.le_of_ble_eq_true rfl) ?_
  rw [List.set_set]
  exact zl 576 0 (h.set 81 (mO (upd (upd m 19 0) 23 0))) (upd (upd m 19 0) 23 0) f4 _ _ _ (by omega) (am_fr.rf.put (Or.inl rfl)) (fun i h1 h2 => by rw [pk_un h2, pk_un h1]) (am_eq hM) rfl rfl (am_ne (by decide) h93) (am_ne (by decide) h94) (am_ne (by decide) h95) (fun q hq => absurd hq (Nat.not_lt_zero q))
end
