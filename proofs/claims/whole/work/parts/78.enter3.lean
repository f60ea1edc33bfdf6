/-- the model's scratch arrays: the size of each cell, 0 elsewhere -/
def msZ (i : Nat) : Nat := if i = 89 then 205 else if i = 90 then 5 else if i = 92 then 13 else if i = 93 then 24 else if i = 94 then 576 else if i = 95 then 24 else if i = 96 then 10 else if i = 97 then 10 else if i = 98 then 100 else if i = 99 then 100 else if i = 100 then 10 else if i = 101 then 3 else if i = 102 then 10 else if i = 103 then 10 else if i = 104 then 3 else 0
def MsI (h : am_H) : Prop := ∀ i, msZ i ≠ 0 → ∃ f, h[i]? = some (aI (msZ i) f)
theorem MsI.fr {h h' : am_H} {P : Nat → Prop} (hS : MsI h) (hf : am_fr P h h') (hP : ∀ i, P i → msZ i ≠ 0 → ∃ f, h'[i]? = some (aI (msZ i) f)) : MsI h' := by
  intro i hi
  by_cases z : P i
  · exact hP i z hi
  · obtain ⟨f, hf2⟩ := hS i hi
    exact ⟨f, hf.at z hf2⟩
def enP (i : Nat) : Prop := i = 81 ∨ i = 83 ∨ i = 93 ∨ i = 94 ∨ i = 95 ∨ i = 96 ∨ i = 99 ∨ i = 102 ∨ i = 103
def enM (m m' : Nat → Int32) : Prop := ∀ i, i ≠ 2 → i ≠ 3 → i ≠ 19 → i ≠ 23 → i ≠ 24 → i ≠ 31 → m' i = m i
section
variable {lx : am_Lx} {d : Nat} {h : am_H} {Q : am_Q} {m : Nat → Int32}
set_option maxRecDepth 20000 in
theorem sp_35 (hd : 4 ≤ d) {n cap n0 : Nat} {f : Nat → Int32} {W B : Nat → Nat} (hM : h[81]? = some (mO m)) (hm0 : m 0 = nI cap) (hcap : 2 ≤ cap ∧ cap ≤ 5) (hm : m 2 = nI n) (h82 : h[82]? = some (aI 24 f)) (hn : n ≤ 24) (hS : MsI h) (hT : TbM h m n0 B) (hn0 : n0 ≤ 12) (hWB : ∀ i, i < n0 → KR (W i) (B i))
    (hq : ∀ v nw h' m', EnR (fun i => chK (f i)) n cap n0 W v nw → am_fr enP h h' → enM m m' → h'[81]? = some (mO m') → m' 2 = nI 0 → MsI h' → TbM h' m' (enN n0 nw) (enB n0 B nw) → Q (some (.int v)) h') : am_KA lx d 35 [.ref 81] h Q := by
  obtain ⟨m3, ky, h83, tk⟩ := id hT
  obtain ⟨e, rfl⟩ : ∃ e, d = e + 1 := ⟨d - 1, by omega⟩
  have G : am_GK (am_KA lx e) cd_35 := ⟨am_KA_m lx e, cm_35⟩
  refine am_KA_in (by decide) (Nat.le_of_ble_eq_true rfl) ?_
  show am_Go (am_KA lx e) (am_fetch cd_35) Q 0 [some (.ref 81), none, none, none, none, none] [] h 0 0
  refine r_ra G (pn := 1) rfl rfl rfl ?_
  have t20 : ∀ q, q ≤ 24 → EnR (fun i => chK (f i)) n cap n0 W (-1 - nI q) none → am_Go (am_KA lx e) (am_fetch cd_35) Q 4 [some (.ref 81), none, none, none, none, none] [.int (nI q)] h 0 0 := by
    intro q hq24 hE
    refine r_is G (pn := 5) rfl rfl (Nat.le_of_ble_eq_true rfl) ?_
    refine r_il G (pn := 6) rfl rfl rfl ?_
    refine r_if1 G (pn := 9) rfl rfl (fun c6 => ?_) (fun c6 => ?_)
    rotate_left
    · exact absurd ((nI_leI (a := 0) (by omega) (by omega)).mpr (Nat.zero_le _)) c6
    refine r_ic G (pn := 21) rfl rfl  ?_
    refine r_is G (pn := 22) rfl rfl (Nat.le_of_ble_eq_true rfl) ?_
    refine r_ra G (pn := 23) rfl rfl rfl ?_
    refine r_ic G (pn := 24) rfl rfl  ?_
    refine r_puti G (pn := 27) rfl rfl (by first | assumption | (repeat (first | assumption | exact am_eq (by first | assumption | exact am_eq (by assumption) | exact am_ne (by first | decide | omega) (by assumption)) | refine am_ne (by first | decide | omega) ?_))) (Nat.le_of_ble_eq_true rfl) ?_
    refine r_il G (pn := 28) rfl rfl rfl ?_
    refine r_if1 G (pn := 31) rfl rfl (fun c28 => ?_) (fun c28 => ?_)
    · exact absurd c28 (nI_pos (by omega))
    refine r_ic G (pn := 32) rfl rfl  ?_
    refine r_il G (pn := 33) rfl rfl rfl ?_
    refine r_ib G (pn := 34) rfl rfl  ?_
    refine r_iret G rfl rfl (hq (-1 - nI q) none _ (upd m 2 (nI 0)) hE (am_fr.rf.put (Or.inl rfl)) (fun i h2 _ _ _ _ _ => pk_un h2) (am_eq hM) rfl (hS.fr (P := fun i => i = 81) (am_fr.rf.put rfl) (fun i hi hz => by subst hi; exact absurd rfl hz)) ⟨m3, ky, am_ne (by decide) h83, tk⟩)
  refine r_inv1 G (pn := 4) rfl rfl hM (Nat.le_of_ble_eq_true rfl) (Nat.le_of_ble_eq_true rfl) (Nat.le_of_ble_eq_true rfl) (sp_32 (by omega) hM hm h82 hn (fun p r' hp hr hs => ?_) (fun r hr => ?_))
  · exact t20 p (by omega) (Or.inl ⟨p, ⟨hp, r', hr, hs⟩, rfl, rfl⟩)
  by_cases z3 : r.v 0 = 3 ∧ r.v 1 = 0
  rotate_left
  · rw [if_neg z3]
    exact t20 n hn (Or.inr ⟨r, hr, by unfold EnE; rw [if_neg z3]; exact ⟨rfl, rfl⟩⟩)
  rw [if_pos z3]
  have hER : ∀ v nw, (if r.ma 0 = 0 ∧ r.ma 1 = 0 then (if r.v 4 = 0 then (if r.v 5 ≤ cap then EnV r n0 W v nw else (v = -102 ∧ nw = none)) else (v = -101 ∧ nw = none)) else (v = -100 ∧ nw = none)) → EnR (fun i => chK (f i)) n cap n0 W v nw := fun v nw hh => Or.inr ⟨r, hr, by unfold EnE; rw [if_pos z3]; exact hh⟩
  obtain ⟨p0, p1, p2, p3, p4, p5, p6, p7, p8, p9, p10, p11⟩ := (rrun_ok hr).1
  have v2 := p6 (by omega)
  show am_Go (am_KA lx e) (am_fetch cd_35) Q 4 [some (.ref 81), none, none, none, none, none] [.int (-1)] h 0 0
  refine r_is G (pn := 5) rfl rfl (Nat.le_of_ble_eq_true rfl) ?_
  refine r_il G (pn := 6) rfl rfl rfl ?_
  refine r_if1 G (pn := 9) rfl rfl (fun c6 => ?_) (fun c6 => ?_)
  · exact absurd c6 (by decide)
  obtain ⟨f3, h93⟩ := hS 93 (by decide)
  obtain ⟨f4, h94⟩ := hS 94 (by decide)
  obtain ⟨f5, h95⟩ := hS 95 (by decide)
  obtain ⟨f6, h96⟩ := hS 96 (by decide)
  obtain ⟨f9, h99⟩ := hS 99 (by decide)
  obtain ⟨fm0, h102⟩ := hS 102 (by decide)
  obtain ⟨ft0, h103⟩ := hS 103 (by decide)
  refine r_ra G (pn := 10) rfl rfl rfl ?_
  refine r_inv1 G (pn := 13) rfl rfl hM (Nat.le_of_ble_eq_true rfl) (Nat.le_of_ble_eq_true rfl) (Nat.le_of_ble_eq_true rfl) (sp_34 (by omega) hM h93 h94 h95 hm h82 hn hr (fun h1 m1 hf1 hm1 hI => ?_))
  obtain ⟨hM1, m19, m23, ⟨g3, k93, j3⟩, ⟨g4, k94, j4⟩, ⟨g5, k95, j5⟩⟩ := id hI
  have n81 : ∀ i, i ≠ 81 → i ≠ 93 → i ≠ 94 → i ≠ 95 → ¬ mrP i := fun i a b c d z => by rcases z with z | z | z | z <;> omega
  have k83 : h1[83]? = some (aL 12 ky) := hf1.at (n81 _ (by omega) (by omega) (by omega) (by omega)) h83
  have k96 : h1[96]? = some (aI 10 f6) := hf1.at (n81 _ (by omega) (by omega) (by omega) (by omega)) h96
  have k99 : h1[99]? = some (aI 100 f9) := hf1.at (n81 _ (by omega) (by omega) (by omega) (by omega)) h99
  have k102 : h1[102]? = some (aI 10 fm0) := hf1.at (n81 _ (by omega) (by omega) (by omega) (by omega)) h102
  have k103 : h1[103]? = some (aI 10 ft0) := hf1.at (n81 _ (by omega) (by omega) (by omega) (by omega)) h103
  have hfe : am_fr enP h h1 := hf1.wk (fun i hi => by unfold enP; unfold mrP at hi; omega)
  have hS1 : MsI h1 := hS.fr hf1 (fun i hi hz => by
    rcases hi with z | z | z | z
    · subst z; exact absurd rfl hz
    · subst z; exact ⟨_, k93⟩
    · subst z; exact ⟨_, k94⟩
    · subst z; exact ⟨_, k95⟩)
  have em : ∀ i, i ≠ 19 → i ≠ 23 → m1 i = m i := hm1
  have t22 : ∀ u : Int32, (u = if r.ma 0 = 0 ∧ r.ma 1 = 0 then 1 else 0) → am_Go (am_KA lx e) (am_fetch cd_35) Q 21 [some (.ref 81), some (.int (-1)), none, none, none, none] [.int u] h1 0 0 := by
    intro u hu
    refine r_is G (pn := 22) rfl rfl (Nat.le_of_ble_eq_true rfl) ?_
    refine r_ra G (pn := 23) rfl rfl rfl ?_
    refine r_ic G (pn := 24) rfl rfl  ?_
    refine r_puti G (pn := 27) rfl rfl (by first | assumption | (repeat (first | assumption | exact am_eq (by first | assumption | exact am_eq (by assumption) | exact am_ne (by first | decide | omega) (by assumption)) | refine am_ne (by first | decide | omega) ?_))) (Nat.le_of_ble_eq_true rfl) ?_
    refine r_il G (pn := 28) rfl rfl rfl ?_
    refine r_if1 G (pn := 31) rfl rfl (fun c28 => ?_) (fun c28 => ?_)
    rotate_left
    · exact absurd (by decide) c28
    refine r_il G (pn := 36) rfl rfl rfl ?_
    -- the state after the line is cleared
    have q1 : (h1.set 81 (mO (upd m1 2 (nI 0))))[81]? = some (mO (upd m1 2 (nI 0))) := am_eq hM1
    have leave : ∀ v, EnR (fun i => chK (f i)) n cap n0 W v none → Q (some (.int v)) (h1.set 81 (mO (upd m1 2 (nI 0)))) := fun v hE => hq v none _ (upd m1 2 (nI 0)) hE (hfe.put (Or.inl rfl)) (fun i h2 h3 h4 h5 _ _ => by rw [pk_un h2]; exact em i h4 h5) q1 rfl (hS1.fr (P := fun i => i = 81) (am_fr.rf.put rfl) (fun i hi hz => by subst hi; exact absurd rfl hz)) ⟨by rw [pk_un (by omega), em 3 (by omega) (by omega)]; exact m3, ky, am_ne (by decide) k83, tk⟩
    by_cases zm : r.ma 0 = 0 ∧ r.ma 1 = 0
    rotate_left
    · rw [if_neg zm] at hu
      simp only [if_neg zm] at hER
      rw [hu]
      refine r_if1 G (pn := 39) rfl rfl (fun c36 => ?_) (fun c36 => ?_)
      rotate_left
      · exact absurd rfl c36
      refine r_il G (pn := 47) rfl rfl rfl ?_
      refine r_if1 G (pn := 50) rfl rfl (fun c47 => ?_) (fun c47 => ?_)
      · exact absurd rfl c47
      refine r_ic G (pn := 52) rfl rfl  ?_
      refine r_goto G rfl ?_
      refine r_iret G rfl rfl (leave _ (hER _ none ⟨rfl, rfl⟩))
    rw [if_pos zm] at hu
    simp only [if_pos zm] at hER
    rw [hu]
    refine r_if1 G (pn := 39) rfl rfl (fun c36 => ?_) (fun c36 => ?_)
    · exact absurd c36 (by decide)
    refine r_ra G (pn := 40) rfl rfl rfl ?_
    refine r_get G (pn := 43) rfl rfl q1 rfl ?_
    show am_Go (am_KA lx e) (am_fetch cd_35) Q 43 [some (.ref 81), some (.int (-1)), some (.int 1), none, none, none] [.int (m1 23)] (h1.set 81 (mO (upd m1 2 (nI 0)))) 0 0
    rw [m23]
    refine r_if1 G (pn := 46) rfl rfl (fun c43 => ?_) (fun c43 => ?_)
    rotate_left
    · have z4 : ¬ r.v 4 = 0 := fun z => c43 (by rw [z]; rfl)
      simp only [if_neg z4] at hER
      refine r_il G (pn := 47) rfl rfl rfl ?_
      refine r_if1 G (pn := 50) rfl rfl (fun c47 => ?_) (fun c47 => ?_)
      rotate_left
      · exact absurd (by decide) c47
      refine r_ic G (pn := 57) rfl rfl  ?_
      refine r_iret G rfl rfl (leave _ (hER _ none ⟨rfl, rfl⟩))
    have z4 : r.v 4 = 0 := (nI_eq (b := 0) (by omega) (by omega)).mp c43
    simp only [if_pos z4] at hER
    refine r_ra G (pn := 59) rfl rfl rfl ?_
    refine r_get G (pn := 62) rfl rfl q1 rfl ?_
    refine r_ra G (pn := 63) rfl rfl rfl ?_
    refine r_get G (pn := 66) rfl rfl q1 rfl ?_
    show am_Go (am_KA lx e) (am_fetch cd_35) Q 66 [some (.ref 81), some (.int (-1)), some (.int 1), none, none, none] [.int (m1 0), .int (m1 19)] (h1.set 81 (mO (upd m1 2 (nI 0)))) 0 0
    rw [m19, em 0 (by omega) (by omega), hm0]
    refine r_if2 G (pn := 69) rfl rfl (fun c66 => ?_) (fun c66 => ?_)
    rotate_left
    · have zc : ¬ r.v 5 ≤ cap := fun z => c66 ((nI_leI (by omega) (by omega)).mpr z)
      simp only [if_neg zc] at hER
      refine r_ic G (pn := 71) rfl rfl  ?_
      refine r_iret G rfl rfl (leave _ (hER _ none ⟨rfl, rfl⟩))
    have zc : r.v 5 ≤ cap := (nI_leI (by omega) (by omega)).mp c66
    simp only [if_pos zc] at hER
    refine r_ra G (pn := 73) rfl rfl rfl ?_
    refine r_ra G (pn := 74) rfl rfl rfl ?_
    refine r_get G (pn := 77) rfl rfl q1 rfl ?_
    show am_Go (am_KA lx e) (am_fetch cd_35) Q 77 [some (.ref 81), some (.int (-1)), some (.int 1), none, none, none] [.int (m1 19), .ref 81] (h1.set 81 (mO (upd m1 2 (nI 0)))) 0 0
    rw [m19]
    refine r_puti G (pn := 80) rfl rfl q1 (Nat.le_of_ble_eq_true rfl) ?_
    refine r_ic G (pn := 81) rfl rfl  ?_
    refine r_is G (pn := 82) rfl rfl (Nat.le_of_ble_eq_true rfl) ?_
    rw [List.set_set]
    -- the copies
    have hA : ∀ (h2 : am_H), h2[81]? = some (mO (upd (upd m1 2 (nI 0)) 24 (nI (r.v 5)))) → am_fr enP h h2 → h2[83]? = some (aL 12 ky) → MsI h2 → (∃ fc, h2[96]? = some (aI 10 fc) ∧ ∀ i, i < r.v 5 → fc i = nI (r.cd i)) → (∃ fm, h2[102]? = some (aI 10 fm) ∧ ∀ i, i < r.v 5 → fm i = nI i) → (∃ fn, h2[99]? = some (aI 100 fn) ∧ ∀ i j, i < r.v 5 → j < r.v 5 → fn (10 * i + j) = nI (r.od i j)) → am_Go (am_KA lx e) (am_fetch cd_35) Q 157 [some (.ref 81), some (.int (-1)), some (.int 1), some (.int (nI (r.v 5))), some (.int (nI (r.v 5))), none] [] h2 0 0 := by
      intro h2 b81 hf2 b83 hS2 ⟨fc, b96, gc⟩ ⟨fm, b102, gm⟩ ⟨fn, b99, gn⟩
      have mv : ∀ i, i ≠ 2 → i ≠ 3 → i ≠ 19 → i ≠ 23 → i ≠ 24 → i ≠ 31 → (upd (upd m1 2 (nI 0)) 24 (nI (r.v 5))) i = m i := fun i h2 h3 h4 h5 h6 h7 => by rw [pk_un h6, pk_un h2]; exact em i h4 h5
      have mv3 : (upd (upd m1 2 (nI 0)) 24 (nI (r.v 5))) 3 = nI n0 := by rw [pk_un (by omega), pk_un (by omega), em 3 (by omega) (by omega)]; exact m3
      refine r_ic G (pn := 158) rfl rfl  ?_
      refine r_is G (pn := 159) rfl rfl (Nat.le_of_ble_eq_true rfl) ?_
      have lp : ∀ (k i : Nat), i + k = r.v 5 → (∀ a, a < i → sm (r.od a) (r.v 5) ≤ r.cd a + 1) → am_Go (am_KA lx e) (am_fetch cd_35) Q 159 [some (.ref 81), some (.int (-1)), some (.int 1), some (.int (nI i)), some (.int (nI (r.v 5))), none] [] h2 0 0 := by
        intro k
        induction k with
        | zero =>
          intro i hi ha
          obtain rfl : i = r.v 5 := by omega
          refine r_il G (pn := 160) rfl rfl rfl ?_
          refine r_ra G (pn := 161) rfl rfl rfl ?_
          refine r_get G (pn := 164) rfl rfl (by first | assumption | (repeat (first | assumption | exact am_eq (by first | assumption | exact am_eq (by assumption) | exact am_ne (by first | decide | omega) (by assumption)) | refine am_ne (by first | decide | omega) ?_))) rfl ?_
          show am_Go (am_KA lx e) (am_fetch cd_35) Q 164 [some (.ref 81), some (.int (-1)), some (.int 1), some (.int (nI (r.v 5))), some (.int (nI (r.v 5))), none] [.int (nI (r.v 5)), .int (nI (r.v 5))] h2 0 0
          refine r_if2 G (pn := 167) rfl rfl (fun c164 => ?_) (fun c164 => ?_)
          rotate_left
          · exact absurd (Int32.le_refl _) c164
          refine r_ra G (pn := 193) rfl rfl rfl ?_
          refine r_ra G (pn := 194) rfl rfl rfl ?_
          refine r_get G (pn := 197) rfl rfl (by first | assumption | (repeat (first | assumption | exact am_eq (by first | assumption | exact am_eq (by assumption) | exact am_ne (by first | decide | omega) (by assumption)) | refine am_ne (by first | decide | omega) ?_))) rfl ?_
          refine r_puti G (pn := 200) rfl rfl (by first | assumption | (repeat (first | assumption | exact am_eq (by first | assumption | exact am_eq (by assumption) | exact am_ne (by first | decide | omega) (by assumption)) | refine am_ne (by first | decide | omega) ?_))) (Nat.le_of_ble_eq_true rfl) ?_
          show am_Go (am_KA lx e) (am_fetch cd_35) Q 200 [some (.ref 81), some (.int (-1)), some (.int 1), some (.int (nI (r.v 5))), some (.int (nI (r.v 5))), none] [] (h2.set 81 (mO (upd (upd (upd m1 2 (nI 0)) 24 (nI (r.v 5))) 31 (nI (r.v 5))))) 0 0
          obtain ⟨ft, b103⟩ := hS2 103 (by decide)
          have b103 : h2[103]? = some (aI 10 ft) := b103
          refine r_ra G (pn := 201) rfl rfl rfl ?_
          refine r_inv1 G (pn := 204) rfl rfl (am_eq b81) (Nat.le_of_ble_eq_true rfl) (Nat.le_of_ble_eq_true rfl) (Nat.le_of_ble_eq_true rfl) (sp_40 (nm := r.v 5) (mem := id) (by omega) (am_eq b81) rfl (am_ne (by decide) b96) (am_ne (by decide) b99) (am_ne (by decide) b102) (am_ne (by decide) b103) (by omega) (fun i hi => ⟨gc i hi, p9 i hi⟩) (fun i j hi hj => ⟨gn i j hi hj, (p10 i j hi hj).1⟩) (fun q hq => ⟨gm q hq, hq⟩) (fun p q hpq _ => hpq) (by omega) (by omega) (fun ft' s hs1 hs2 hs3 => ?_))
          have hk := IsK_model (cd := r.cd) (od := r.od) (mem := id) (by omega) (by omega) (fun q hq => p9 q hq) (fun i j hi hj => (p10 i j hi hj).1) ⟨hs1, hs2⟩ hs3
          have hkr := hk.kr (by omega) (by omega) (fun q hq => p9 q hq) (fun i j hi hj => (p10 i j hi hj).1)
          have hlt := hkr.lt
          generalize hw : WC r.cd r.od (fun q => id (s q)) (r.v 5) = w at hk hkr hlt
          generalize hb : WM r.cd r.od (fun q => id (s q)) (r.v 5) = b at hk hkr hlt
          have b81' : ((h2.set 81 (mO (upd (upd (upd m1 2 (nI 0)) 24 (nI (r.v 5))) 31 (nI (r.v 5))))).set 103 (aI 10 ft'))[81]? = some (mO (upd (upd (upd m1 2 (nI 0)) 24 (nI (r.v 5))) 31 (nI (r.v 5)))) := am_ne (by decide) (am_eq b81)
          have b83' : ((h2.set 81 (mO (upd (upd (upd m1 2 (nI 0)) 24 (nI (r.v 5))) 31 (nI (r.v 5))))).set 103 (aI 10 ft'))[83]? = some (aL 12 ky) := am_ne (by decide) (am_ne (by decide) b83)
          have hf3 : am_fr enP h ((h2.set 81 (mO (upd (upd (upd m1 2 (nI 0)) 24 (nI (r.v 5))) 31 (nI (r.v 5))))).set 103 (aI 10 ft')) := (hf2.put (Or.inl rfl)).put (by unfold enP; omega)
          have hS3 : MsI ((h2.set 81 (mO (upd (upd (upd m1 2 (nI 0)) 24 (nI (r.v 5))) 31 (nI (r.v 5))))).set 103 (aI 10 ft')) := hS2.fr (P := fun i => i = 81 ∨ i = 103) ((am_fr.rf.put (Or.inl rfl)).put (Or.inr rfl)) (fun i hi hz => by
            rcases hi with z | z
            · subst z; exact absurd rfl hz
            · subst z; exact ⟨ft', am_eq (am_ne (by decide) b103)⟩)
          have mv' : ∀ i, i ≠ 2 → i ≠ 3 → i ≠ 19 → i ≠ 23 → i ≠ 24 → i ≠ 31 → (upd (upd (upd m1 2 (nI 0)) 24 (nI (r.v 5))) 31 (nI (r.v 5))) i = m i := fun i a1 a2 a3 a4 a5 a6 => by rw [pk_un a6]; exact mv i a1 a2 a3 a4 a5 a6
          generalize hh4 : ((h2.set 81 (mO (upd (upd (upd m1 2 (nI 0)) 24 (nI (r.v 5))) 31 (nI (r.v 5))))).set 103 (aI 10 ft')) = h4 at b81' b83' hf3 hS3
          show am_Go (am_KA lx e) (am_fetch cd_35) Q 204 [some (.ref 81), some (.int (-1)), some (.int 1), some (.int (nI (r.v 5))), some (.int (nI (r.v 5))), none] [.long (lN b)] h4 0 0
          refine r_ls G (pn := 205) rfl rfl (Nat.le_of_ble_eq_true rfl) ?_
          refine r_ra G (pn := 206) rfl rfl rfl ?_
          refine r_ll G (pn := 207) rfl rfl rfl ?_
          refine r_inv2 G (pn := 210) rfl rfl b81' (Nat.le_of_ble_eq_true rfl) (Nat.le_of_ble_eq_true rfl) (Nat.le_of_ble_eq_true rfl) (sp_37 (by omega) b81' (by rw [pk_un (by omega)]; exact mv3) b83' hn0 (fun i hi hki _ => ?_) (fun hno => ?_))
          · show am_Go (am_KA lx e) (am_fetch cd_35) Q 210 [some (.ref 81), some (.int (-1)), some (.int 1), some (.long (lN b)), none, none] [.int (nI i)] h4 0 0
            refine r_is G (pn := 212) rfl rfl (Nat.le_of_ble_eq_true rfl) ?_
            refine r_il G (pn := 214) rfl rfl rfl ?_
            refine r_if1 G (pn := 217) rfl rfl (fun c214 => ?_) (fun c214 => ?_)
            · exact absurd c214 (nI_pos (by omega))
            refine r_il G (pn := 219) rfl rfl rfl ?_
            refine r_iret G rfl rfl (hq (nI i) none h4 _ (hER _ none (Or.inr ⟨ha, w, b, hk, Or.inl ⟨i, hi, ?_, rfl, rfl⟩⟩)) hf3 mv' b81' rfl hS3 ⟨by rw [pk_un (by omega)]; exact mv3, ky, b83', tk⟩)
            obtain ⟨t1, t2⟩ := tk i hi
            have : B i = b := (lN_iff (by omega) (by omega)).mp (t1.symm.trans hki)
            exact (KR_ord (hWB i hi) hkr).2.mpr this
          · have hno' : ∀ i, i < n0 → W i ≠ w := fun i hi z => hno i hi (by rw [(tk i hi).1, (KR_ord (hWB i hi) hkr).2.mp z])
            show am_Go (am_KA lx e) (am_fetch cd_35) Q 210 [some (.ref 81), some (.int (-1)), some (.int 1), some (.long (lN b)), none, none] [.int (-1)] h4 0 0
            refine r_is G (pn := 212) rfl rfl (Nat.le_of_ble_eq_true rfl) ?_
            refine r_il G (pn := 214) rfl rfl rfl ?_
            refine r_if1 G (pn := 217) rfl rfl (fun c214 => ?_) (fun c214 => ?_)
            rotate_left
            · exact absurd (by decide) c214
            refine r_ra G (pn := 221) rfl rfl rfl ?_
            refine r_get G (pn := 224) rfl rfl (by first | assumption | (repeat (first | assumption | exact am_eq (by first | assumption | exact am_eq (by assumption) | exact am_ne (by first | decide | omega) (by assumption)) | refine am_ne (by first | decide | omega) ?_))) rfl ?_
            refine r_ic G (pn := 226) rfl rfl  ?_
            show am_Go (am_KA lx e) (am_fetch cd_35) Q 226 [some (.ref 81), some (.int (-1)), some (.int 1), some (.long (lN b)), none, some (.int (-1))] [.int 12, .int (upd (upd (upd m1 2 (nI 0)) 24 (nI (r.v 5))) 31 (nI (r.v 5)) 3)] h4 0 0
            rw [show upd (upd (upd m1 2 (nI 0)) 24 (nI (r.v 5))) 31 (nI (r.v 5)) 3 = nI n0 by rw [pk_un (by omega)]; exact mv3]
            refine r_if2 G (pn := 229) rfl rfl (fun c226 => ?_) (fun c226 => ?_)
            · have hlt12 : n0 < 12 := by
                have : n0 ≠ 12 := fun z => c226 (by rw [z]; rfl)
                omega
              refine r_ra G (pn := 233) rfl rfl rfl ?_
              refine r_get G (pn := 236) rfl rfl (by first | assumption | (repeat (first | assumption | exact am_eq (by first | assumption | exact am_eq (by assumption) | exact am_ne (by first | decide | omega) (by assumption)) | refine am_ne (by first | decide | omega) ?_))) rfl ?_
              refine r_ra G (pn := 237) rfl rfl rfl ?_
              refine r_get G (pn := 240) rfl rfl (by first | assumption | (repeat (first | assumption | exact am_eq (by first | assumption | exact am_eq (by assumption) | exact am_ne (by first | decide | omega) (by assumption)) | refine am_ne (by first | decide | omega) ?_))) rfl ?_
              show am_Go (am_KA lx e) (am_fetch cd_35) Q 240 [some (.ref 81), some (.int (-1)), some (.int 1), some (.long (lN b)), none, some (.int (-1))] [.int (upd (upd (upd m1 2 (nI 0)) 24 (nI (r.v 5))) 31 (nI (r.v 5)) 3), .ref 83] h4 0 0
              rw [show upd (upd (upd m1 2 (nI 0)) 24 (nI (r.v 5))) 31 (nI (r.v 5)) 3 = nI n0 by rw [pk_un (by omega)]; exact mv3]
              refine r_ll G (pn := 241) rfl rfl rfl ?_
              refine r_lastN G (pn := 242) rfl rfl b83' (by omega) (by omega) ?_
              refine r_ra G (pn := 243) rfl rfl rfl ?_
              refine r_dup G (pn := 244) rfl rfl rfl ?_
              refine r_get G (pn := 247) rfl rfl (am_ne (by decide) b81') rfl ?_
              show am_Go (am_KA lx e) (am_fetch cd_35) Q 247 [some (.ref 81), some (.int (-1)), some (.int 1), some (.long (lN b)), none, some (.int (-1))] [.int (upd (upd (upd m1 2 (nI 0)) 24 (nI (r.v 5))) 31 (nI (r.v 5)) 3), .ref 81] (h4.set 83 (aL 12 (vp_updL ky n0 (lN b)))) 0 0
              rw [show upd (upd (upd m1 2 (nI 0)) 24 (nI (r.v 5))) 31 (nI (r.v 5)) 3 = nI n0 by rw [pk_un (by omega)]; exact mv3]
              refine r_ic G (pn := 248) rfl rfl  ?_
              refine r_ib G (pn := 249) rfl rfl  ?_
              rw [nI_1]
              refine r_puti G (pn := 252) rfl rfl (am_ne (by decide) b81') (Nat.le_of_ble_eq_true rfl) ?_
              refine r_ra G (pn := 253) rfl rfl rfl ?_
              show am_Go (am_KA lx e) (am_fetch cd_35) Q 253 [some (.ref 81), some (.int (-1)), some (.int 1), some (.long (lN b)), none, some (.int (-1))] [.ref 81] ((h4.set 83 (aL 12 (vp_updL ky n0 (lN b)))).set 81 (mO (upd (upd (upd (upd m1 2 (nI 0)) 24 (nI (r.v 5))) 31 (nI (r.v 5))) 3 (nI (n0 + 1))))) 0 0
              refine r_get G (pn := 256) rfl rfl (am_eq (am_ne (by decide) b81')) rfl ?_
              refine r_ic G (pn := 257) rfl rfl  ?_
              show am_Go (am_KA lx e) (am_fetch cd_35) Q 257 [some (.ref 81), some (.int (-1)), some (.int 1), some (.long (lN b)), none, some (.int (-1))] [.int 1, .int (nI (n0 + 1))] ((h4.set 83 (aL 12 (vp_updL ky n0 (lN b)))).set 81 (mO (upd (upd (upd (upd m1 2 (nI 0)) 24 (nI (r.v 5))) 31 (nI (r.v 5))) 3 (nI (n0 + 1))))) 0 0
              refine r_ib G (pn := 258) rfl rfl  ?_
              rw [nI_pred]
              refine r_iret G rfl rfl (hq (nI n0) (some (w, b)) _ (upd (upd (upd (upd m1 2 (nI 0)) 24 (nI (r.v 5))) 31 (nI (r.v 5))) 3 (nI (n0 + 1))) (hER _ (some (w, b)) (Or.inr ⟨ha, w, b, hk, Or.inr ⟨hno', Or.inr ⟨hlt12, rfl, rfl⟩⟩⟩)) ((hf3.put (by unfold enP; omega)).put (by unfold enP; omega)) (fun i a1 a2 a3 a4 a5 a6 => by rw [pk_un a2]; exact mv' i a1 a2 a3 a4 a5 a6) (am_eq (am_ne (by decide) b81')) rfl (hS3.fr (P := fun i => i = 81 ∨ i = 83) ((am_fr.rf.put (Or.inr rfl)).put (Or.inl rfl)) (fun i hi hz => by
                rcases hi with z | z
                · subst z; exact absurd rfl hz
                · subst z; exact absurd rfl hz)) ⟨rfl, _, am_ne (by decide) (am_eq b83'), fun i hi => ?_⟩)
              have hi : i < n0 + 1 := hi
              show vp_updL ky n0 (lN b) i = lN (uN B n0 b i) ∧ uN B n0 b i < 2 ^ 48
              by_cases y : i = n0
              · rw [y, pk_uLs', uN_s]; exact ⟨rfl, hlt.2⟩
              · rw [pk_uLn y, uN_n y]
                exact tk i (by omega)
            · have h12 : n0 = 12 := (nI_eq (b := 12) (by omega) (by omega)).mp (Classical.byContradiction c226)
              refine r_ic G (pn := 231) rfl rfl  ?_
              refine r_iret G rfl rfl (hq (-104) none h4 _ (hER _ none (Or.inr ⟨ha, w, b, hk, Or.inr ⟨hno', Or.inl ⟨h12, rfl, rfl⟩⟩⟩)) hf3 mv' b81' rfl hS3 ⟨by rw [pk_un (by omega)]; exact mv3, ky, b83', tk⟩)
        | succ k ih =>
          intro i hi ha
          refine r_il G (pn := 160) rfl rfl rfl ?_
          refine r_ra G (pn := 161) rfl rfl rfl ?_
          refine r_get G (pn := 164) rfl rfl (by first | assumption | (repeat (first | assumption | exact am_eq (by first | assumption | exact am_eq (by assumption) | exact am_ne (by first | decide | omega) (by assumption)) | refine am_ne (by first | decide | omega) ?_))) rfl ?_
          show am_Go (am_KA lx e) (am_fetch cd_35) Q 164 [some (.ref 81), some (.int (-1)), some (.int 1), some (.int (nI i)), some (.int (nI (r.v 5))), none] [.int (nI (r.v 5)), .int (nI i)] h2 0 0
          refine r_if2 G (pn := 167) rfl rfl (fun c164 => ?_) (fun c164 => ?_)
          · exact absurd ((nI_leI (by omega) (by omega)).mp c164) (by omega)
          refine r_ra G (pn := 168) rfl rfl rfl ?_
          refine r_il G (pn := 169) rfl rfl rfl ?_
          refine r_inv2 G (pn := 172) rfl rfl b81 (Nat.le_of_ble_eq_true rfl) (Nat.le_of_ble_eq_true rfl) (Nat.le_of_ble_eq_true rfl) (sp_36 (n := r.v 5) (od := r.od) (by omega) b81 rfl b99 (by omega) (by omega) (fun j hj => ⟨gn i j (by omega) hj, (p10 i j (by omega) hj).1⟩) ?_)
          have hsm : sm (r.od i) (r.v 5) ≤ r.v 5 * 3 := sm_le (fun j hj => by have := (p10 i j (by omega) hj).1; omega)
          have hcd := p9 i (by omega)
          show am_Go (am_KA lx e) (am_fetch cd_35) Q 172 [some (.ref 81), some (.int (-1)), some (.int 1), some (.int (nI i)), some (.int (nI (r.v 5))), none] [.int (nI (sm (r.od i) (r.v 5)))] h2 0 0
          refine r_ra G (pn := 173) rfl rfl rfl ?_
          refine r_get G (pn := 176) rfl rfl (by first | assumption | (repeat (first | assumption | exact am_eq (by first | assumption | exact am_eq (by assumption) | exact am_ne (by first | decide | omega) (by assumption)) | refine am_ne (by first | decide | omega) ?_))) rfl ?_
          refine r_il G (pn := 177) rfl rfl rfl ?_
          refine r_ialdN G (pn := 178) rfl rfl b96 (by omega) (by omega) ?_
          rw [gc i (by omega)]
          refine r_ic G (pn := 179) rfl rfl  ?_
          refine r_ib G (pn := 180) rfl rfl  ?_
          rw [nI_1]
          refine r_if2 G (pn := 183) rfl rfl (fun c180 => ?_) (fun c180 => ?_)
          · have hle := (nI_leI (by omega) (by omega)).mp c180
            refine r_inc G (pn := 189) rfl rfl rfl (Nat.le_of_ble_eq_true rfl) ?_
            refine r_goto G rfl ?_
            rw [nI_1]
            refine ih (i + 1) (by omega) (fun a hai => ?_)
            by_cases y : a = i
            · rw [y]; exact hle
            · exact ha a (by omega)
          · have hgt : r.cd i + 1 < sm (r.od i) (r.v 5) := Nat.not_le.mp (fun z => c180 ((nI_leI (by omega) (by omega)).mpr z))
            refine r_ic G (pn := 185) rfl rfl  ?_
            refine r_iret G rfl rfl (hq (-103) none h2 _ (hER _ none (Or.inl ⟨⟨i, by omega, hgt⟩, rfl, rfl⟩)) hf2 mv b81 rfl hS2 ⟨mv3, ky, b83, tk⟩)
      exact lp (r.v 5) 0 (by omega) (fun a ha => absurd ha (Nat.not_lt_zero a))
    -- the outer copy
    have hC : ∀ (k i : Nat) (h2 : am_H) (y4 : Option Value) (fc fm fn : Nat → Int32), i + k = r.v 5 → (k = 0 → y4 = some (.int (nI (r.v 5)))) → h2[81]? = some (mO (upd (upd m1 2 (nI 0)) 24 (nI (r.v 5)))) → am_fr enP h h2 → h2[83]? = some (aL 12 ky) → MsI h2 → h2[93]? = some (aI 24 g3) → h2[94]? = some (aI 576 g4) → h2[96]? = some (aI 10 fc) → (∀ a, a < i → fc a = nI (r.cd a)) → h2[102]? = some (aI 10 fm) → (∀ a, a < i → fm a = nI a) → h2[99]? = some (aI 100 fn) → (∀ a j, a < i → j < r.v 5 → fn (10 * a + j) = nI (r.od a j)) → am_Go (am_KA lx e) (am_fetch cd_35) Q 82 [some (.ref 81), some (.int (-1)), some (.int 1), some (.int (nI i)), y4, none] [] h2 0 0 := by
      intro k
      induction k with
      | zero =>
        intro i h2 y4 fc fm fn hi hy b81 hf2 b83 hS2 b93 b94 b96 gc b102 gm b99 gn
        obtain rfl : i = r.v 5 := by omega
        rw [hy rfl]
        refine r_il G (pn := 83) rfl rfl rfl ?_
        refine r_ra G (pn := 84) rfl rfl rfl ?_
        refine r_get G (pn := 87) rfl rfl (by first | assumption | (repeat (first | assumption | exact am_eq (by first | assumption | exact am_eq (by assumption) | exact am_ne (by first | decide | omega) (by assumption)) | refine am_ne (by first | decide | omega) ?_))) rfl ?_
        show am_Go (am_KA lx e) (am_fetch cd_35) Q 87 [some (.ref 81), some (.int (-1)), some (.int 1), some (.int (nI (r.v 5))), some (.int (nI (r.v 5))), none] [.int (nI (r.v 5)), .int (nI (r.v 5))] h2 0 0
        refine r_if2 G (pn := 90) rfl rfl (fun c87 => ?_) (fun c87 => ?_)
        · exact hA h2 b81 hf2 b83 hS2 ⟨fc, b96, gc⟩ ⟨fm, b102, gm⟩ ⟨fn, b99, gn⟩
        · exact absurd (Int32.le_refl _) c87
      | succ k ih =>
        intro i h2 y4 fc fm fn hi hy b81 hf2 b83 hS2 b93 b94 b96 gc b102 gm b99 gn
        refine r_il G (pn := 83) rfl rfl rfl ?_
        refine r_ra G (pn := 84) rfl rfl rfl ?_
        refine r_get G (pn := 87) rfl rfl (by first | assumption | (repeat (first | assumption | exact am_eq (by first | assumption | exact am_eq (by assumption) | exact am_ne (by first | decide | omega) (by assumption)) | refine am_ne (by first | decide | omega) ?_))) rfl ?_
        show am_Go (am_KA lx e) (am_fetch cd_35) Q 87 [some (.ref 81), some (.int (-1)), some (.int 1), some (.int (nI i)), y4, none] [.int (nI (r.v 5)), .int (nI i)] h2 0 0
        refine r_if2 G (pn := 90) rfl rfl (fun c87 => ?_) (fun c87 => ?_)
        · exact absurd ((nI_leI (by omega) (by omega)).mp c87) (by omega)
        refine r_ra G (pn := 91) rfl rfl rfl ?_
        refine r_get G (pn := 94) rfl rfl (by first | assumption | (repeat (first | assumption | exact am_eq (by first | assumption | exact am_eq (by assumption) | exact am_ne (by first | decide | omega) (by assumption)) | refine am_ne (by first | decide | omega) ?_))) rfl ?_
        refine r_il G (pn := 95) rfl rfl rfl ?_
        refine r_ra G (pn := 96) rfl rfl rfl ?_
        refine r_get G (pn := 99) rfl rfl (by first | assumption | (repeat (first | assumption | exact am_eq (by first | assumption | exact am_eq (by assumption) | exact am_ne (by first | decide | omega) (by assumption)) | refine am_ne (by first | decide | omega) ?_))) rfl ?_
        refine r_il G (pn := 100) rfl rfl rfl ?_
        refine r_ialdN G (pn := 101) rfl rfl b93 (by omega) (by omega) ?_
        rw [j3 i (by omega)]
        refine r_iastN G (pn := 102) rfl rfl b96 (by omega) (by omega) ?_
        refine r_ra G (pn := 103) rfl rfl rfl ?_
        refine r_get G (pn := 106) rfl rfl (am_ne (by decide) b81) rfl ?_
        refine r_il G (pn := 107) rfl rfl rfl ?_
        refine r_il G (pn := 108) rfl rfl rfl ?_
        refine r_iastN G (pn := 109) rfl rfl (am_ne (by decide) b102) (by omega) (by omega) ?_
        refine r_ic G (pn := 110) rfl rfl  ?_
        refine r_is G (pn := 112) rfl rfl (Nat.le_of_ble_eq_true rfl) ?_
        have inner : ∀ (k2 j : Nat) (h3 : am_H) (fn : Nat → Int32), j + k2 = r.v 5 → h3[81]? = some (mO (upd (upd m1 2 (nI 0)) 24 (nI (r.v 5)))) → am_fr enP h h3 → h3[83]? = some (aL 12 ky) → MsI h3 → h3[93]? = some (aI 24 g3) → h3[94]? = some (aI 576 g4) → h3[96]? = some (aI 10 (upd fc i (nI (r.cd i)))) → h3[102]? = some (aI 10 (upd fm i (nI i))) → h3[99]? = some (aI 100 fn) → (∀ a j, a < i → j < r.v 5 → fn (10 * a + j) = nI (r.od a j)) → (∀ q, q < j → fn (10 * i + q) = nI (r.od i q)) → am_Go (am_KA lx e) (am_fetch cd_35) Q 112 [some (.ref 81), some (.int (-1)), some (.int 1), some (.int (nI i)), some (.int (nI j)), none] [] h3 0 0 := by
          intro k2
          induction k2 with
          | zero =>
            intro j h3 fn hj b81 hf3 b83 hS3 b93 b94 b96 b102 b99 gn gi
            obtain rfl : j = r.v 5 := by omega
            refine r_il G (pn := 114) rfl rfl rfl ?_
            refine r_ra G (pn := 115) rfl rfl rfl ?_
            refine r_get G (pn := 118) rfl rfl (by first | assumption | (repeat (first | assumption | exact am_eq (by first | assumption | exact am_eq (by assumption) | exact am_ne (by first | decide | omega) (by assumption)) | refine am_ne (by first | decide | omega) ?_))) rfl ?_
            show am_Go (am_KA lx e) (am_fetch cd_35) Q 118 [some (.ref 81), some (.int (-1)), some (.int 1), some (.int (nI i)), some (.int (nI (r.v 5))), none] [.int (nI (r.v 5)), .int (nI (r.v 5))] h3 0 0
            refine r_if2 G (pn := 121) rfl rfl (fun c118 => ?_) (fun c118 => ?_)
            rotate_left
            · exact absurd (Int32.le_refl _) c118
            refine r_inc G (pn := 154) rfl rfl rfl (Nat.le_of_ble_eq_true rfl) ?_
            refine r_goto G rfl ?_
            rw [nI_1]
            refine ih (i + 1) h3 _ _ _ fn (by omega) (fun _ => rfl) b81 hf3 b83 hS3 b93 b94 b96 (fun a ha => ?_) b102 (fun a ha => ?_) b99 (fun a j ha hj => ?_)
            · by_cases y : a = i
              · rw [y, pk_us]
              · rw [pk_un y]; exact gc a (by omega)
            · by_cases y : a = i
              · rw [y, pk_us]
              · rw [pk_un y]; exact gm a (by omega)
            · by_cases y : a = i
              · rw [y]; exact gi j hj
              · exact gn a j (by omega) hj
          | succ k2 ih2 =>
            intro j h3 fn hj b81 hf3 b83 hS3 b93 b94 b96 b102 b99 gn gi
            refine r_il G (pn := 114) rfl rfl rfl ?_
            refine r_ra G (pn := 115) rfl rfl rfl ?_
            refine r_get G (pn := 118) rfl rfl (by first | assumption | (repeat (first | assumption | exact am_eq (by first | assumption | exact am_eq (by assumption) | exact am_ne (by first | decide | omega) (by assumption)) | refine am_ne (by first | decide | omega) ?_))) rfl ?_
            show am_Go (am_KA lx e) (am_fetch cd_35) Q 118 [some (.ref 81), some (.int (-1)), some (.int 1), some (.int (nI i)), some (.int (nI j)), none] [.int (nI (r.v 5)), .int (nI j)] h3 0 0
            refine r_if2 G (pn := 121) rfl rfl (fun c118 => ?_) (fun c118 => ?_)
            · exact absurd ((nI_leI (by omega) (by omega)).mp c118) (by omega)
            refine r_ra G (pn := 122) rfl rfl rfl ?_
            refine r_get G (pn := 125) rfl rfl (by first | assumption | (repeat (first | assumption | exact am_eq (by first | assumption | exact am_eq (by assumption) | exact am_ne (by first | decide | omega) (by assumption)) | refine am_ne (by first | decide | omega) ?_))) rfl ?_
            refine r_ic G (pn := 127) rfl rfl  ?_
            refine r_il G (pn := 128) rfl rfl rfl ?_
            refine r_ib G (pn := 129) rfl rfl  ?_
            refine r_il G (pn := 131) rfl rfl rfl ?_
            refine r_ib G (pn := 132) rfl rfl  ?_
            rw [nI_10]
            refine r_ra G (pn := 133) rfl rfl rfl ?_
            refine r_get G (pn := 136) rfl rfl (by first | assumption | (repeat (first | assumption | exact am_eq (by first | assumption | exact am_eq (by assumption) | exact am_ne (by first | decide | omega) (by assumption)) | refine am_ne (by first | decide | omega) ?_))) rfl ?_
            refine r_ic G (pn := 138) rfl rfl  ?_
            refine r_il G (pn := 139) rfl rfl rfl ?_
            refine r_ib G (pn := 140) rfl rfl  ?_
            refine r_il G (pn := 142) rfl rfl rfl ?_
            refine r_ib G (pn := 143) rfl rfl  ?_
            rw [nI_24]
            refine r_ialdN G (pn := 144) rfl rfl b94 (by omega) (by omega) ?_
            rw [j4 i j (by omega) (by omega), if_pos (by omega)]
            refine r_iastN G (pn := 145) rfl rfl b99 (by omega) (by omega) ?_
            refine r_inc G (pn := 148) rfl rfl rfl (Nat.le_of_ble_eq_true rfl) ?_
            refine r_goto G rfl ?_
            rw [nI_1]
            refine ih2 (j + 1) _ _ (by omega) (am_ne (by decide) b81) (hf3.put (by unfold enP; omega)) (am_ne (by decide) b83) (hS3.fr (P := fun i => i = 99) (am_fr.rf.put rfl) (fun q hq hz => by subst hq; exact ⟨_, am_eq b99⟩)) (am_ne (by decide) b93) (am_ne (by decide) b94) (am_ne (by decide) b96) (am_ne (by decide) b102) (am_eq b99) (fun a q ha hq => ?_) (fun q hq => ?_)
            · rw [pk_un (by omega)]; exact gn a q ha hq
            · by_cases y : q = j
              · rw [y, pk_us]
              · rw [pk_un (by omega)]; exact gi q (by omega)
        refine inner (r.v 5) 0 _ fn (by omega) (am_ne (by decide) (am_ne (by decide) b81)) ((hf2.put (by unfold enP; omega)).put (by unfold enP; omega)) (am_ne (by decide) (am_ne (by decide) b83)) (hS2.fr (P := fun i => i = 96 ∨ i = 102) ((am_fr.rf.put (Or.inl rfl)).put (Or.inr rfl)) (fun q hq hz => ?_)) (am_ne (by decide) (am_ne (by decide) b93)) (am_ne (by decide) (am_ne (by decide) b94)) (am_ne (by decide) (am_eq b96)) (am_eq (am_ne (by decide) b102)) (am_ne (by decide) (am_ne (by decide) b99)) gn (fun q hq => absurd hq (Nat.not_lt_zero q))
        rcases hq with z | z
        · subst z; exact ⟨_, am_ne (by decide) (am_eq b96)⟩
        · subst z; exact ⟨_, am_eq (am_ne (by decide) b102)⟩
    exact hC (r.v 5) 0 (h1.set 81 (mO (upd (upd m1 2 (nI 0)) 24 (nI (r.v 5))))) none f6 fm0 f9 (by omega) (fun z => absurd z (by omega)) (am_eq hM1) (hfe.put (Or.inl rfl)) (am_ne (by decide) k83) (hS1.fr (P := fun i => i = 81) (am_fr.rf.put rfl) (fun i hi hz => by subst hi; exact absurd rfl hz)) (am_ne (by decide) k93) (am_ne (by decide) k94) (am_ne (by decide) k96) (fun a ha => absurd ha (Nat.not_lt_zero a)) (am_ne (by decide) k102) (fun a ha => absurd ha (Nat.not_lt_zero a)) (am_ne (by decide) k99) (fun a _ ha => absurd ha (Nat.not_lt_zero a))
  by_cases zm : r.ma 0 = 0 ∧ r.ma 1 = 0
  · rw [if_pos zm]
    show am_Go (am_KA lx e) (am_fetch cd_35) Q 13 [some (.ref 81), some (.int (-1)), none, none, none, none] [.int 1] h1 0 0
    refine r_if1 G (pn := 16) rfl rfl (fun c13 => ?_) (fun c13 => ?_)
    · exact absurd c13 (by decide)
    refine r_ic G (pn := 17) rfl rfl  ?_
    refine r_goto G rfl ?_
    exact t22 1 (by rw [if_pos zm])
  · rw [if_neg zm]
    show am_Go (am_KA lx e) (am_fetch cd_35) Q 13 [some (.ref 81), some (.int (-1)), none, none, none, none] [.int 0] h1 0 0
    refine r_if1 G (pn := 16) rfl rfl (fun c13 => ?_) (fun c13 => ?_)
    rotate_left
    · exact absurd rfl c13
    refine r_ic G (pn := 21) rfl rfl  ?_
    exact t22 0 (by rw [if_neg zm])
end
