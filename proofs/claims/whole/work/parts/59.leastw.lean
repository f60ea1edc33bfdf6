/-- the word of an ordering, as the class packs it -/
def WC (cd : Nat → Nat) (od : Nat → Nat → Nat) (pi : Nat → Nat) (cnt : Nat) : Nat := cnt * 1073741824 + e4 (fun q => cd (pi q)) cnt * 1048576 + vl od pi id cnt
theorem e4_congr {f g : Nat → Nat} : ∀ {n : Nat}, (∀ i, i < n → f i = g i) → e4 f n = e4 g n
  | 0, _ => rfl
  | n + 1, h => by
    show e4 f n * 4 + f n = e4 g n * 4 + g n
    rw [e4_congr (fun i hi => h i (by omega)), h n (by omega)]
theorem vl_comp {od : Nat → Nat → Nat} {srt s : Nat → Nat} : ∀ {p : Nat}, vl od (fun q => srt (s q)) id p = vl od srt s p
  | 0 => rfl
  | p + 1 => by
    show wo od (fun k => srt (s (id k))) (srt (s (id p))) (vl od (fun q => srt (s q)) id p) p = wo od (fun k => srt (s k)) (srt (s p)) (vl od srt s p) p
    rw [vl_comp]
    rfl
theorem WC_comp {cd : Nat → Nat} {od : Nat → Nat → Nat} {srt s : Nat → Nat} {cnt : Nat} (h : ∀ p, p < cnt → cd (srt (s p)) = cd (srt p)) : WC cd od (fun q => srt (s q)) cnt = cnt * 1073741824 + e4 (fun q => cd (srt q)) cnt * 1048576 + vl od srt s cnt := by
  unfold WC
  rw [vl_comp, e4_congr (f := fun q => cd (srt (s q))) (g := fun q => cd (srt q)) h]
/-- what the search leaves in the three rows -/
def keyP (i : Nat) : Prop := 36 ≤ i ∧ i ≤ 38
def KsI (h : am_H) : Prop := h[35]? = some kO ∧ (∃ f, h[36]? = some (aI 5 f)) ∧ (∃ f, h[37]? = some (aI 5 f)) ∧ ∃ f, h[38]? = some (aI 5 f)
theorem KsI.fr {h h' : am_H} {P : Nat → Prop} (hI : KsI h) (hf : am_fr P h h') (hP : ∀ i, 35 ≤ i → i ≤ 38 → ¬ P i) : KsI h' := by
  obtain ⟨h1, ⟨f2, h2⟩, ⟨f3, h3⟩, ⟨f4, h4⟩⟩ := hI
  exact ⟨hf.at (hP _ (by omega) (by omega)) h1, ⟨f2, hf.at (hP _ (by omega) (by omega)) h2⟩, ⟨f3, hf.at (hP _ (by omega) (by omega)) h3⟩, ⟨f4, hf.at (hP _ (by omega) (by omega)) h4⟩⟩
set_option maxHeartbeats 1000000 in
theorem sp_82 {lx : am_Lx} {d : Nat} {h : am_H} {Q : am_Q} (hd : 7 ≤ d) {g N n A NA cnt : Nat} {cd at_ : Nat → Nat} {od : Nat → Nat → Nat} {fa : Nat → Int32} (hI : GrI g N h n cd od) (hN : N ≤ 24) (hnN : n ≤ N) (hgr : g + 3 + N < 35 ∨ 38 < g) (hK : KsI h) (hA : h[A]? = some (aI NA fa)) (hA36 : A < 35 ∨ 38 < A) (hNA : NA ≤ 24) (hcA : cnt ≤ NA) (hc1 : 1 ≤ cnt) (hc5 : cnt ≤ 5) (hat : ∀ q, q < cnt → fa q = nI (at_ q) ∧ at_ q < n) (hcd : ∀ i, i < n → cd i < 4) (ho : ∀ i j, i < n → j < n → od i j < 4)
    (hq : ∀ (h' : am_H) (srt s : Nat → Nat), am_fr keyP h h' → KsI h' → (∀ q, q < cnt → srt q < n) → (∀ p q, p < q → q < cnt → cd (srt p) ≤ cd (srt q)) → (∀ P : Nat → Bool, cn P srt 0 cnt = cn P at_ 0 cnt) → vOk cd srt cnt s cnt → (∀ t, vOk cd srt cnt t cnt → vl od srt s cnt ≤ vl od srt t cnt) → Q (some (.long (lN (WC cd od (fun q => srt (s q)) cnt)))) h') : am_KA lx d 82 [.ref 35, .ref g, .ref A, .int (nI cnt)] h Q := by
  obtain ⟨h35, ⟨fs0, h36⟩, ⟨fo0, h37⟩, ⟨fl0, h38⟩⟩ := hK
  obtain ⟨e, rfl⟩ : ∃ e, d = e + 1 := ⟨d - 1, by omega⟩
  have G : am_GK (am_KA lx e) cd_82 := ⟨am_KA_m lx e, cm_82⟩
  refine am_KA_in (by decide) (Nat.le_of_ble_eq_true rfl) ?_
  show am_Go (am_KA lx e) (am_fetch cd_82) Q 0 [some (.ref 35), some (.ref g), some (.ref A), some (.int (nI cnt)), none, none] [] h 0 0
  refine r_ra G (pn := 1) rfl rfl rfl ?_
  refine r_ra G (pn := 2) rfl rfl rfl ?_
  refine r_ra G (pn := 3) rfl rfl rfl ?_
  refine r_il G (pn := 4) rfl rfl rfl ?_
  refine r_inv4 G (pn := 7) rfl rfl h35 (Nat.le_of_ble_eq_true rfl) (Nat.le_of_ble_eq_true rfl) (Nat.le_of_ble_eq_true rfl) (sp_83 (by omega) hI hN hnN hgr h35 h36 hA (by omega) hNA hcA hc5 hat hcd (fun fs srt b1 b2 b3 => ?_))
  show am_Go (am_KA lx e) (am_fetch cd_82) Q 7 [some (.ref 35), some (.ref g), some (.ref A), some (.int (nI cnt)), none, none] [] (h.set 36 (aI 5 fs)) 0 0
  have hos : ∀ i j, i < cnt → j < cnt → od (srt i) (srt j) < 4 := fun i j hi hj => ho _ _ (b1 i hi).2 (b1 j hj).2
  have hcs : ∀ i, i < cnt → cd (srt i) < 4 := fun i hi => hcd _ (b1 i hi).2
  have hgP : ∀ i, grP g N i → ¬ keyP i := fun i hi => by
    have h1 := hi.1
    have h2 := hi.2
    unfold keyP
    omega
  have k35 : ∀ f, ((h.set 36 (aI 5 fs)).set 38 (aI 5 f))[35]? = some kO := fun f => am_ne (by decide) (am_ne (by decide) h35)
  have k36 : ∀ f, ((h.set 36 (aI 5 fs)).set 38 (aI 5 f))[36]? = some (aI 5 fs) := fun f => am_ne (by decide) (am_eq h36)
  have k37 : ∀ f, ((h.set 36 (aI 5 fs)).set 38 (aI 5 f))[37]? = some (aI 5 fo0) := fun f => am_ne (by decide) (am_ne (by decide) h37)
  have k38 : ∀ f, ((h.set 36 (aI 5 fs)).set 38 (aI 5 f))[38]? = some (aI 5 f) := fun f => am_eq (am_ne (by decide) h38)
  have hfr0 : ∀ f, am_fr keyP h ((h.set 36 (aI 5 fs)).set 38 (aI 5 f)) := fun f => (am_fr.rf.put (by unfold keyP; omega)).put (by unfold keyP; omega)
  have hJ : ∀ f, GrI g N ((h.set 36 (aI 5 fs)).set 38 (aI 5 f)) n cd od := fun f => hI.fr (hfr0 f) hgP
  refine r_ic G (pn := 8) rfl rfl  ?_
  refine r_is G (pn := 10) rfl rfl (Nat.le_of_ble_eq_true rfl) ?_
  refine r_ic G (pn := 11) rfl rfl  ?_
  refine r_is G (pn := 13) rfl rfl (Nat.le_of_ble_eq_true rfl) ?_
  have lp : ∀ (k i : Nat) (fl : Nat → Int32), i + k = cnt → (∀ q, q < i → fl q = nI 1048576) → am_Go (am_KA lx e) (am_fetch cd_82) Q 13 [some (.ref 35), some (.ref g), some (.ref A), some (.int (nI cnt)), some (.int (nI (e4 (fun q => cd (srt q)) i))), some (.int (nI i))] [] ((h.set 36 (aI 5 fs)).set 38 (aI 5 fl)) 0 0 := by
    intro k
    induction k with
    | zero =>
      intro i fl hi hfl
      obtain rfl : i = cnt := by omega
      refine r_il G (pn := 15) rfl rfl rfl ?_
      refine r_il G (pn := 16) rfl rfl rfl ?_
      refine r_if2 G (pn := 19) rfl rfl (fun c16 => ?_) (fun c16 => ?_)
      · refine r_ra G (pn := 54) rfl rfl rfl ?_
        refine r_ra G (pn := 55) rfl rfl rfl ?_
        refine r_il G (pn := 56) rfl rfl rfl ?_
        refine r_ic G (pn := 57) rfl rfl  ?_
        refine r_ic G (pn := 58) rfl rfl  ?_
        refine r_ic G (pn := 59) rfl rfl  ?_
        have hreal : vReal od cd srt i (fun _ => 1048576) := fun p hp => Or.inl rfl
        refine r_inv6 G (pn := 62) rfl rfl (k35 fl) (Nat.le_of_ble_eq_true rfl) (Nat.le_of_ble_eq_true rfl) (Nat.le_of_ble_eq_true rfl) (sp_84 (n := n) (srt := srt) (fs := fs) hN hnN hc5 hgr ho hcd (fun q hq => (b1 q hq).2) (fun q hq => (b1 q hq).1) (i - 1) 0 e (by omega) (by omega) _ id (fun _ => 1048576) 0 fo0 fl _ (hJ fl) (k35 fl) (k36 fl) (k37 fl) (k38 fl) (fun q hq => absurd hq (by omega)) hfl hreal ⟨fun p hp => absurd hp (by omega), fun p q hp => absurd hp (by omega)⟩ (by omega) (fun k9 => ?_) (fun h3 hp3 => ?_))
        · constructor
          · intro z
            simp at z
          · rintro ⟨p, hp, _⟩
            omega
        · obtain ⟨q1, fo3, fl3, L3, q2, q3, q4, q5, q6, q7, q8⟩ := hp3
          obtain ⟨s, m1, m2, m3⟩ := vMin_ex (cd := cd) (srt := srt) (cnt := i) hos
          have hlt := vl_lt (sg := s) hc5 hos (p := i) (Nat.le_refl _) (fun q hq => (m1.1 q hq).1)
          have htl := tri_le hc5
          have hle := q8 s m1 (fun q hq => absurd hq (by omega)) m2
          have hval : L3 (i - 1) = vl od srt s i := by
            rcases q6 (i - 1) (by omega) with z | ⟨t, ht, z⟩
            · omega
            · rw [show i - 1 + 1 = i by omega] at ht z
              have := m3 t ht
              omega
          have hf3 : am_fr keyP h h3 := (hfr0 fl).tr (q1.wk (fun j hj => by unfold keyP; omega))
          have j35 : h3[35]? = some kO := q1.at (by omega) (k35 fl)
          have j36 : h3[36]? = some (aI 5 fs) := q1.at (by omega) (k36 fl)
          show am_Go (am_KA lx e) (am_fetch cd_82) Q 62 [some (.ref 35), some (.ref g), some (.ref A), some (.int (nI i)), some (.int (nI (e4 (fun q => cd (srt q)) i))), some (.int (nI i))] [] h3 0 0
          have e1 : nI i - 1 = nI (i - 1) := by
            obtain ⟨j, rfl⟩ : ∃ j, i = j + 1 := ⟨i - 1, by omega⟩
            rw [nI_pred]
            rfl
          refine r_il G (pn := 63) rfl rfl rfl ?_
          refine r_il G (pn := 65) rfl rfl rfl ?_
          refine r_ra G (pn := 66) rfl rfl rfl ?_
          refine r_get G (pn := 69) rfl rfl (by first | assumption | (repeat (first | assumption | exact am_eq (by first | assumption | exact am_eq (by assumption) | exact am_ne (by first | decide | omega) (by assumption)) | refine am_ne (by first | decide | omega) ?_))) rfl ?_
          refine r_il G (pn := 70) rfl rfl rfl ?_
          refine r_ic G (pn := 71) rfl rfl  ?_
          refine r_ib G (pn := 72) rfl rfl  ?_
          rw [e1]
          refine r_ialdN G (pn := 73) rfl rfl q4 (by omega) (by omega) ?_
          rw [q5 _ (by omega), hval]
          have hce : e4 (fun q => cd (srt q)) i < 1024 := by
            have h1 := e4_lt (f := fun q => cd (srt q)) (n := i) hcs
            have h2 : (4 : Nat) ^ i ≤ 4 ^ 5 := Nat.pow_le_pow_right (by decide) hc5
            have h3 : (4 : Nat) ^ 5 = 1024 := by decide
            omega
          refine r_ins3 G (pn := 76) rfl rfl (Nat.le_of_ble_eq_true rfl) (Nat.le_of_ble_eq_true rfl) (Nat.le_of_ble_eq_true rfl) (sp_127 (by omega) (by omega) hce (by omega) ?_)
          rw [← WC_comp (fun p hp => (m1.1 p hp).2)]
          refine r_lret G rfl (hq h3 srt s hf3 ⟨j35, ⟨fs, j36⟩, ⟨fo3, q2⟩, ⟨fl3, q4⟩⟩ (fun q hq => (b1 q hq).2) b2 b3 m1 m3)
      · exact absurd (Int32.le_refl _) c16
    | succ k ih =>
      intro i fl hi hfl
      have hce : e4 (fun q => cd (srt q)) i < 4 ^ i := e4_lt (fun q hq => hcs q (by omega))
      have hce2 : (4 : Nat) ^ i ≤ 4 ^ 4 := Nat.pow_le_pow_right (by decide) (by omega)
      have hce3 : (4 : Nat) ^ 4 = 256 := by decide
      obtain ⟨f2, j2, g2⟩ := (hJ fl).2.1
      have hJ1 := (hJ fl).1
      obtain ⟨e1, e2⟩ := b1 i (by omega)
      have c3 := hcs i (by omega)
      refine r_il G (pn := 15) rfl rfl rfl ?_
      refine r_il G (pn := 16) rfl rfl rfl ?_
      refine r_if2 G (pn := 19) rfl rfl (fun c16 => ?_) (fun c16 => ?_)
      · exact absurd ((nI_leI (by omega) (by omega)).mp c16) (by omega)
      · refine r_il G (pn := 21) rfl rfl rfl ?_
        refine r_ic G (pn := 22) rfl rfl  ?_
        refine r_ib G (pn := 23) rfl rfl  ?_
        refine r_ra G (pn := 24) rfl rfl rfl ?_
        refine r_get G (pn := 27) rfl rfl hJ1 rfl ?_
        refine r_ra G (pn := 28) rfl rfl rfl ?_
        refine r_get G (pn := 31) rfl rfl (k35 fl) rfl ?_
        refine r_il G (pn := 33) rfl rfl rfl ?_
        refine r_ialdN G (pn := 34) rfl rfl (k36 fl) (by omega) (by omega) ?_
        rw [e1]
        refine r_ialdN G (pn := 35) rfl rfl j2 (by omega) (by omega) ?_
        rw [g2 _ e2]
        refine r_ib G (pn := 36) rfl rfl  ?_
        rw [am_push2 c3 (by omega)]
        refine r_is G (pn := 38) rfl rfl (Nat.le_of_ble_eq_true rfl) ?_
        refine r_ra G (pn := 39) rfl rfl rfl ?_
        refine r_get G (pn := 42) rfl rfl (k35 fl) rfl ?_
        refine r_il G (pn := 44) rfl rfl rfl ?_
        refine r_ic G (pn := 46) rfl rfl  ?_
        refine r_iastN G (pn := 47) rfl rfl (k38 fl) (by omega) (by omega) ?_
        rw [List.set_set]
        refine r_inc G (pn := 50) rfl rfl rfl (Nat.le_of_ble_eq_true rfl) ?_
        refine r_goto G rfl ?_
        rw [nI_1]
        refine ih (i + 1) _ (by omega) (fun q hq => ?_)
        by_cases z : q = i
        · rw [z, pk_us]; rfl
        · rw [pk_un z]
          exact hfl q (by omega)
  have := lp cnt 0 fl0 (by omega) (fun q hq => absurd hq (by omega))
  rw [am_same (am_ne (by decide) h38)] at this
  exact this
