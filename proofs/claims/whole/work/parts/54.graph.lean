/-- a Graph at g with room for N atoms: n atoms, their codes, the orders between them -/
def GrI (g N : Nat) (h : am_H) (n : Nat) (cd : Nat → Nat) (od : Nat → Nat → Nat) : Prop :=
  h[g]? = some (.inr (2, [.ref (g + 1), .ref (g + 2), .ref (g + 3 + N), .int (nI n)])) ∧ (∃ f, h[g + 1]? = some (aI N f) ∧ ∀ i, i < n → f i = nI (cd i)) ∧ (∃ r, h[g + 2]? = some (.inl (.array .int, N, .inr (.inr (.inr (.inr r))))) ∧ ∀ i, i < N → r i = some (g + 3 + i)) ∧
  (∀ i, i < N → ∃ f, h[g + 3 + i]? = some (aI N f) ∧ f i = nI 0 ∧ ∀ j, i < n → j < n → f j = nI (od i j)) ∧ (∃ f, h[g + 3 + N]? = some (aI N f) ∧ ∀ i, i < N → f i = nI i)
def grP (g N : Nat) (i : Nat) : Prop := g ≤ i ∧ i ≤ g + 3 + N
theorem GrI.fr {g N n : Nat} {h h' : am_H} {cd : Nat → Nat} {od : Nat → Nat → Nat} {P : Nat → Prop} (hI : GrI g N h n cd od) (hf : am_fr P h h') (hP : ∀ i, grP g N i → ¬ P i) : GrI g N h' n cd od := by
  obtain ⟨h1, ⟨f2, h2, g2⟩, ⟨r3, h3, g3⟩, h4, ⟨f5, h5, g5⟩⟩ := hI
  refine ⟨hf.at (hP _ ⟨by omega, by omega⟩) h1, ⟨f2, hf.at (hP _ ⟨by omega, by omega⟩) h2, g2⟩, ⟨r3, hf.at (hP _ ⟨by omega, by omega⟩) h3, g3⟩, fun i hi => ?_, ⟨f5, hf.at (hP _ ⟨by omega, by omega⟩) h5, g5⟩⟩
  obtain ⟨f, a, b⟩ := h4 i hi
  exact ⟨f, hf.at (hP _ ⟨by omega, by omega⟩) a, b⟩
theorem GrI.od {g N n : Nat} {h : am_H} {cd cd' : Nat → Nat} {od od' : Nat → Nat → Nat} (hI : GrI g N h n cd od) (e1 : ∀ i, i < n → cd' i = cd i) (e : ∀ i j, i < n → j < n → od' i j = od i j) : GrI g N h n cd' od' := by
  obtain ⟨h1, ⟨f2, h2, g2⟩, h3, h4, h5⟩ := hI
  refine ⟨h1, ⟨f2, h2, fun i hi => by rw [e1 i hi]; exact g2 i hi⟩, h3, fun i hi => ?_, h5⟩
  obtain ⟨f, a, b, b2⟩ := h4 i hi
  exact ⟨f, a, b, fun j q1 q2 => by rw [e i j q1 q2]; exact b2 j q1 q2⟩
def oset (od : Nat → Nat → Nat) (a b o : Nat) : Nat → Nat → Nat := fun i j => if (i = a ∧ j = b) ∨ (i = b ∧ j = a) then o else od i j
def sm (f : Nat → Nat) : Nat → Nat
  | 0 => 0
  | k + 1 => sm f k + f k
theorem sm_le {f : Nat → Nat} {m : Nat} : ∀ {n : Nat}, (∀ i, i < n → f i ≤ m) → sm f n ≤ n * m
  | 0, _ => by simp [sm]
  | k + 1, h => by
    have := sm_le (n := k) (fun i hi => h i (by omega))
    have := h k (by omega)
    show sm f k + f k ≤ (k + 1) * m
    rw [Nat.add_mul]
    omega
section
variable {lx : am_Lx} {d : Nat} {h : am_H} {Q : am_Q}
theorem sp_77 (hd : 1 ≤ d) {g N n : Nat} {cd : Nat → Nat} {od : Nat → Nat → Nat} (hI : GrI g N h n cd od) (hq : ∀ h', am_fr (grP g N) h h' → (∀ cd od, GrI g N h' 0 cd od) → Q none h') : am_KA lx d 77 [.ref g] h Q := by
  obtain ⟨h1, ⟨f2, h2, g2⟩, ⟨r3, h3, g3⟩, h4, ⟨f5, h5, g5⟩⟩ := hI
  obtain ⟨e, rfl⟩ : ∃ e, d = e + 1 := ⟨d - 1, by omega⟩
  have G : am_GK (am_KA lx e) cd_77 := ⟨am_KA_m lx e, cm_77⟩
  refine am_KA_in (by decide) (Nat.le_of_ble_eq_true rfl) ?_
  show am_Go (am_KA lx e) (am_fetch cd_77) Q 0 [some (.ref g)] [] h 0 0
  refine r_ra G (pn := 1) rfl rfl rfl ?_
  refine r_ic G (pn := 2) rfl rfl  ?_
  refine r_puti G (pn := 5) rfl rfl (by first | assumption | (repeat (first | assumption | exact am_eq (by first | assumption | exact am_eq (by assumption) | exact am_ne (by first | decide | omega) (by assumption)) | refine am_ne (by first | decide | omega) ?_))) (Nat.le_of_ble_eq_true rfl) ?_
  refine r_vret G rfl ?_
  refine hq _ (am_fr.rf.put ⟨by omega, by omega⟩) (fun cd od => ⟨am_eq h1, ⟨f2, am_ne (by omega) h2, fun i hi => absurd hi (by omega)⟩, ⟨r3, am_ne (by omega) h3, g3⟩, fun i hi => ?_, ⟨f5, am_ne (by omega) h5, g5⟩⟩)
  obtain ⟨f, a, b, -⟩ := h4 i hi
  exact ⟨f, am_ne (by omega) a, b, fun j q => absurd q (by omega)⟩
theorem sp_79 (hd : 1 ≤ d) {g N n a b o : Nat} {cd : Nat → Nat} {od : Nat → Nat → Nat} (hI : GrI g N h n cd od) (hN : N ≤ 24) (ha : a < N) (hb : b < N) (hab : a ≠ b) (hq : ∀ h', am_fr (grP g N) h h' → GrI g N h' n cd (oset od a b o) → Q none h') : am_KA lx d 79 [.ref g, .int (nI a), .int (nI b), .int (nI o)] h Q := by
  obtain ⟨h1, ⟨f2, h2, g2⟩, ⟨r3, h3, g3⟩, h4, ⟨f5, h5, g5⟩⟩ := hI
  obtain ⟨fa, ra, da, oa⟩ := h4 a ha
  obtain ⟨fb, rb, db, ob⟩ := h4 b hb
  obtain ⟨e, rfl⟩ : ∃ e, d = e + 1 := ⟨d - 1, by omega⟩
  have G : am_GK (am_KA lx e) cd_79 := ⟨am_KA_m lx e, cm_79⟩
  refine am_KA_in (by decide) (Nat.le_of_ble_eq_true rfl) ?_
  show am_Go (am_KA lx e) (am_fetch cd_79) Q 0 [some (.ref g), some (.int (nI a)), some (.int (nI b)), some (.int (nI o))] [] h 0 0
  refine r_ra G (pn := 1) rfl rfl rfl ?_
  refine r_get G (pn := 4) rfl rfl (by first | assumption | (repeat (first | assumption | exact am_eq (by first | assumption | exact am_eq (by assumption) | exact am_ne (by first | decide | omega) (by assumption)) | refine am_ne (by first | decide | omega) ?_))) rfl ?_
  refine r_il G (pn := 5) rfl rfl rfl ?_
  refine r_raldN G (pn := 6) rfl rfl h3 ha (by omega) (g3 a ha) ?_
  refine r_il G (pn := 7) rfl rfl rfl ?_
  refine r_il G (pn := 8) rfl rfl rfl ?_
  refine r_iastN G (pn := 9) rfl rfl ra hb (by omega) ?_
  refine r_ra G (pn := 10) rfl rfl rfl ?_
  refine r_get G (pn := 13) rfl rfl (am_ne (by omega) h1) rfl ?_
  refine r_il G (pn := 14) rfl rfl rfl ?_
  refine r_raldN G (pn := 15) rfl rfl (am_ne (by omega) h3) hb (by omega) (g3 b hb) ?_
  refine r_il G (pn := 16) rfl rfl rfl ?_
  refine r_il G (pn := 17) rfl rfl rfl ?_
  refine r_iastN G (pn := 18) rfl rfl (am_ne (by omega) rb) ha (by omega) ?_
  refine r_vret G rfl ?_
  refine hq _ ((am_fr.rf.put ⟨by omega, by omega⟩).put ⟨by omega, by omega⟩) ⟨am_ne (by omega) (am_ne (by omega) h1), ⟨f2, am_ne (by omega) (am_ne (by omega) h2), g2⟩, ⟨r3, am_ne (by omega) (am_ne (by omega) h3), g3⟩, fun i hi => ?_, ⟨f5, am_ne (by omega) (am_ne (by omega) h5), g5⟩⟩
  by_cases ib : i = b
  · subst ib
    refine ⟨_, am_eq (am_ne (by omega) rb), ?_, fun j q1 q2 => ?_⟩
    · rw [pk_un (by omega)]; exact db
    · by_cases ja : j = a
      · rw [ja, pk_us]
        simp [oset]
      · rw [pk_un ja, ob j q1 q2]
        simp [oset, ja, Ne.symm hab]
  · by_cases ia : i = a
    · subst ia
      refine ⟨_, am_ne (by omega) (am_eq ra), ?_, fun j q1 q2 => ?_⟩
      · rw [pk_un (by omega)]; exact da
      · by_cases jb : j = b
        · rw [jb, pk_us]
          simp [oset]
        · rw [pk_un jb, oa j q1 q2]
          simp [oset, jb, hab]
    · obtain ⟨f, r, d0, o0⟩ := h4 i hi
      refine ⟨f, am_ne (by omega) (am_ne (by omega) r), d0, fun j q1 q2 => ?_⟩
      rw [o0 j q1 q2]
      simp [oset, ia, ib]
theorem nI_tb (x : Int32) : nI x.toBitVec.toNat = x := by
  apply Int32.toBitVec_inj.mp
  show BitVec.ofNat 32 x.toBitVec.toNat = x.toBitVec
  rw [BitVec.ofNat_toNat, BitVec.setWidth_eq]
theorem sp_78 (hd : 2 ≤ d) {g N n kc : Nat} {cd : Nat → Nat} {od : Nat → Nat → Nat} (hI : GrI g N h n cd od) (hN : N ≤ 24) (hn : n < N) (hq : ∀ h', am_fr (grP g N) h h' → GrI g N h' (n + 1) (fun i => if i = n then kc else cd i) (fun i j => if i = n ∨ j = n then 0 else od i j) → Q (some (.int (nI n))) h') : am_KA lx d 78 [.ref g, .int (nI kc)] h Q := by
  obtain ⟨h1, ⟨f2, h2, g2⟩, ⟨r3, h3, g3⟩, h4, ⟨f5, h5, g5⟩⟩ := hI
  obtain ⟨e, rfl⟩ : ∃ e, d = e + 1 := ⟨d - 1, by omega⟩
  have G : am_GK (am_KA lx e) cd_78 := ⟨am_KA_m lx e, cm_78⟩
  refine am_KA_in (by decide) (Nat.le_of_ble_eq_true rfl) ?_
  show am_Go (am_KA lx e) (am_fetch cd_78) Q 0 [some (.ref g), some (.int (nI kc)), none, none] [] h 0 0
  refine r_ra G (pn := 1) rfl rfl rfl ?_
  refine r_get G (pn := 4) rfl rfl (by first | assumption | (repeat (first | assumption | exact am_eq (by first | assumption | exact am_eq (by assumption) | exact am_ne (by first | decide | omega) (by assumption)) | refine am_ne (by first | decide | omega) ?_))) rfl ?_
  refine r_ra G (pn := 5) rfl rfl rfl ?_
  refine r_get G (pn := 8) rfl rfl (by first | assumption | (repeat (first | assumption | exact am_eq (by first | assumption | exact am_eq (by assumption) | exact am_ne (by first | decide | omega) (by assumption)) | refine am_ne (by first | decide | omega) ?_))) rfl ?_
  refine r_len G (pn := 9) rfl rfl (by first | assumption | (repeat (first | assumption | exact am_eq (by first | assumption | exact am_eq (by assumption) | exact am_ne (by first | decide | omega) (by assumption)) | refine am_ne (by first | decide | omega) ?_))) ?_
  refine r_if2 G (pn := 12) rfl rfl (fun c9 => ?_) (fun c9 => ?_)
  · refine r_ra G (pn := 15) rfl rfl rfl ?_
    refine r_get G (pn := 18) rfl rfl (by first | assumption | (repeat (first | assumption | exact am_eq (by first | assumption | exact am_eq (by assumption) | exact am_ne (by first | decide | omega) (by assumption)) | refine am_ne (by first | decide | omega) ?_))) rfl ?_
    refine r_is G (pn := 19) rfl rfl (Nat.le_of_ble_eq_true rfl) ?_
    refine r_ra G (pn := 20) rfl rfl rfl ?_
    refine r_dup G (pn := 21) rfl rfl rfl ?_
    refine r_get G (pn := 24) rfl rfl (by first | assumption | (repeat (first | assumption | exact am_eq (by first | assumption | exact am_eq (by assumption) | exact am_ne (by first | decide | omega) (by assumption)) | refine am_ne (by first | decide | omega) ?_))) rfl ?_
    refine r_ic G (pn := 25) rfl rfl  ?_
    refine r_ib G (pn := 26) rfl rfl  ?_
    rw [nI_1]
    refine r_puti G (pn := 29) rfl rfl h1 (Nat.le_of_ble_eq_true rfl) ?_
    refine r_ra G (pn := 30) rfl rfl rfl ?_
    refine r_get G (pn := 33) rfl rfl (am_eq h1) rfl ?_
    refine r_il G (pn := 34) rfl rfl rfl ?_
    refine r_il G (pn := 35) rfl rfl rfl ?_
    refine r_iastN G (pn := 36) rfl rfl (am_ne (by omega) h2) hn (by omega) ?_
    refine r_ic G (pn := 37) rfl rfl  ?_
    refine r_is G (pn := 38) rfl rfl (Nat.le_of_ble_eq_true rfl) ?_
    have init : ∃ od1, GrI g N ((h.set g (.inr (2, [.ref (g + 1), .ref (g + 2), .ref (g + 3 + N), .int (nI (n + 1))]))).set (g + 1) (aI N (upd f2 n (nI kc)))) (n + 1) (fun i => if i = n then kc else cd i) od1 ∧ (∀ i j, i < n → j < n → od1 i j = od i j) ∧ od1 n n = 0 := by
      refine ⟨fun i j => if i < n ∧ j < n then od i j else if i = j then 0 else (match h[g + 3 + i]? with | some (.inl (_, _, .inl f)) => (f j).toBitVec.toNat | _ => 0), ⟨am_ne (by omega) (am_eq h1), ⟨_, am_eq (am_ne (by omega) h2), fun i hi => ?_⟩, ⟨r3, am_ne (by omega) (am_ne (by omega) h3), g3⟩, fun i hi => ?_, ⟨f5, am_ne (by omega) (am_ne (by omega) h5), g5⟩⟩, fun i j hi hj => if_pos ⟨hi, hj⟩, ?_⟩
      · by_cases q : i = n
        · rw [q, pk_us]; simp
        · rw [pk_un q, g2 i (by omega)]; simp [q]
      · obtain ⟨f, a1, a2, a3⟩ := h4 i hi
        refine ⟨f, am_ne (by omega) (am_ne (by omega) a1), a2, fun j q1 q2 => ?_⟩
        by_cases q : i < n ∧ j < n
        · dsimp only
          rw [if_pos q]
          exact a3 j q.1 q.2
        · dsimp only
          rw [if_neg q]
          by_cases e9 : i = j
          · rw [if_pos e9, ← e9]; exact a2
          · rw [if_neg e9, a1]
            exact (nI_tb _).symm
      · dsimp only
        rw [if_neg (by omega), if_pos rfl]
    have lp : ∀ (k i : Nat) (h' : am_H) (od1 : Nat → Nat → Nat), i + k = n → am_fr (grP g N) h h' → GrI g N h' (n + 1) (fun i => if i = n then kc else cd i) od1 → (∀ i j, i < n → j < n → od1 i j = od i j) → od1 n n = 0 → (∀ q, q < i → od1 q n = 0 ∧ od1 n q = 0) → am_Go (am_KA lx e) (am_fetch cd_78) Q 38 [some (.ref g), some (.int (nI kc)), some (.int (nI n)), some (.int (nI i))] [] h' 0 0 := by
      intro k
      induction k with
      | zero =>
        intro i h' od1 hi hf hJ e1 e2 e3
        obtain rfl : i = n := by omega
        refine r_il G (pn := 39) rfl rfl rfl ?_
        refine r_il G (pn := 40) rfl rfl rfl ?_
        refine r_if2 G (pn := 43) rfl rfl (fun c40 => ?_) (fun c40 => ?_)
        · refine r_il G (pn := 57) rfl rfl rfl ?_
          refine r_iret G rfl rfl ?_
          refine hq h' hf (hJ.od (fun _ _ => rfl) (fun p q hp hq => ?_))
          by_cases z : p = i ∨ q = i
          · rw [show (if p = i ∨ q = i then 0 else od p q) = 0 from if_pos z]
            by_cases pi : p = i
            · by_cases qi : q = i
              · rw [pi, qi, e2]
              · rw [pi]; exact ((e3 q (by omega)).2).symm
            · have qi : q = i := by omega
              rw [qi]; exact ((e3 p (by omega)).1).symm
          · rw [show (if p = i ∨ q = i then 0 else od p q) = od p q from if_neg z]
            exact (e1 p q (by omega) (by omega)).symm
        · exact absurd (Int32.le_refl _) c40
      | succ k ih =>
        intro i h' od1 hi hf hJ e1 e2 e3
        refine r_il G (pn := 39) rfl rfl rfl ?_
        refine r_il G (pn := 40) rfl rfl rfl ?_
        refine r_if2 G (pn := 43) rfl rfl (fun c40 => ?_) (fun c40 => ?_)
        · exact absurd ((nI_leI (by omega) (by omega)).mp c40) (by omega)
        · refine r_ra G (pn := 44) rfl rfl rfl ?_
          refine r_il G (pn := 45) rfl rfl rfl ?_
          refine r_il G (pn := 46) rfl rfl rfl ?_
          refine r_ic G (pn := 47) rfl rfl  ?_
          refine r_inv4 G (pn := 50) rfl rfl hJ.1 (Nat.le_of_ble_eq_true rfl) (Nat.le_of_ble_eq_true rfl) (Nat.le_of_ble_eq_true rfl) (sp_79 (o := 0) (by omega) hJ hN (by omega) hn (by omega) (fun h2 hf2 hJ2 => ?_))
          show am_Go (am_KA lx e) (am_fetch cd_78) Q 50 [some (.ref g), some (.int (nI kc)), some (.int (nI n)), some (.int (nI i))] [] h2 0 0
          refine r_inc G (pn := 53) rfl rfl rfl (Nat.le_of_ble_eq_true rfl) ?_
          refine r_goto G rfl ?_
          rw [nI_1]
          refine ih (i + 1) h2 _ (by omega) (hf.tr hf2) hJ2 (fun p q hp hq => ?_) ?_ (fun q hq => ?_)
          · unfold oset
            rw [if_neg (by omega)]
            exact e1 p q hp hq
          · unfold oset
            rw [if_neg (by omega)]
            exact e2
          · unfold oset
            by_cases z : q = i
            · rw [if_pos (Or.inl ⟨z, rfl⟩), if_pos (Or.inr ⟨rfl, z⟩)]
              exact ⟨rfl, rfl⟩
            · rw [if_neg (by omega), if_neg (by omega)]
              exact e3 q (by omega)
    obtain ⟨od1, a1, a2, a3⟩ := init
    exact lp n 0 _ od1 (by omega) ((am_fr.rf.put ⟨by omega, by omega⟩).put ⟨by omega, by omega⟩) a1 a2 a3 (fun q hq => absurd hq (by omega))
  · exact absurd ((nI_ltI (a := n) (b := N) (by omega) (by omega)).mpr hn) c9
theorem sp_80 (hd : 1 ≤ d) {g N n a : Nat} {cd : Nat → Nat} {od : Nat → Nat → Nat} (hI : GrI g N h n cd od) (hN : N ≤ 24) (hnN : n ≤ N) (ha : a < n) (ho : ∀ i j, i < n → j < n → od i j < 4) (hc : cd a < 4) (hno : sm (od a) n ≤ cd a + 1 → Q (some (.int 0)) h) (hyes : cd a + 1 < sm (od a) n → Q (some (.int 1)) h) : am_KA lx d 80 [.ref g, .int (nI a)] h Q := by
  obtain ⟨h1, ⟨f2, h2, g2⟩, ⟨r3, h3, g3⟩, h4, ⟨f5, h5, g5⟩⟩ := hI
  obtain ⟨fa, ra, da, oa⟩ := h4 a (by omega)
  have hb : ∀ k, k ≤ n → sm (od a) k ≤ k * 3 := fun k hk => sm_le (fun i hi => by have := ho a i ha (by omega); omega)
  obtain ⟨e, rfl⟩ : ∃ e, d = e + 1 := ⟨d - 1, by omega⟩
  have G : am_GK (am_KA lx e) cd_80 := ⟨am_KA_m lx e, cm_80⟩
  refine am_KA_in (by decide) (Nat.le_of_ble_eq_true rfl) ?_
  show am_Go (am_KA lx e) (am_fetch cd_80) Q 0 [some (.ref g), some (.int (nI a)), none, none] [] h 0 0
  refine r_ic G (pn := 1) rfl rfl  ?_
  refine r_is G (pn := 2) rfl rfl (Nat.le_of_ble_eq_true rfl) ?_
  refine r_ic G (pn := 3) rfl rfl  ?_
  refine r_is G (pn := 4) rfl rfl (Nat.le_of_ble_eq_true rfl) ?_
  have lp : ∀ (k i : Nat), i + k = n → am_Go (am_KA lx e) (am_fetch cd_80) Q 4 [some (.ref g), some (.int (nI a)), some (.int (nI (sm (od a) i))), some (.int (nI i))] [] h 0 0 := by
    intro k
    induction k with
    | zero =>
      intro i hi
      obtain rfl : i = n := by omega
      have := hb i (by omega)
      refine r_il G (pn := 5) rfl rfl rfl ?_
      refine r_ra G (pn := 6) rfl rfl rfl ?_
      refine r_get G (pn := 9) rfl rfl (by first | assumption | (repeat (first | assumption | exact am_eq (by first | assumption | exact am_eq (by assumption) | exact am_ne (by first | decide | omega) (by assumption)) | refine am_ne (by first | decide | omega) ?_))) rfl ?_
      refine r_if2 G (pn := 12) rfl rfl (fun c9 => ?_) (fun c9 => ?_)
      · refine r_il G (pn := 30) rfl rfl rfl ?_
        refine r_ra G (pn := 31) rfl rfl rfl ?_
        refine r_get G (pn := 34) rfl rfl (by first | assumption | (repeat (first | assumption | exact am_eq (by first | assumption | exact am_eq (by assumption) | exact am_ne (by first | decide | omega) (by assumption)) | refine am_ne (by first | decide | omega) ?_))) rfl ?_
        refine r_il G (pn := 35) rfl rfl rfl ?_
        refine r_ialdN G (pn := 36) rfl rfl h2 (by omega) (by omega) ?_
        rw [g2 a ha]
        refine r_ic G (pn := 37) rfl rfl  ?_
        refine r_ib G (pn := 38) rfl rfl  ?_
        rw [nI_1]
        refine r_if2 G (pn := 41) rfl rfl (fun c38 => ?_) (fun c38 => ?_)
        · refine r_ic G (pn := 46) rfl rfl  ?_
          refine r_iret G rfl (by decide) (hno ((nI_leI (by omega) (by omega)).mp c38))
        · refine r_ic G (pn := 42) rfl rfl  ?_
          refine r_goto G rfl ?_
          refine r_iret G rfl (by decide) (hyes (Nat.not_le.mp (fun q => c38 ((nI_leI (by omega) (by omega)).mpr q))))
      · exact absurd (Int32.le_refl _) c9
    | succ k ih =>
      intro i hi
      refine r_il G (pn := 5) rfl rfl rfl ?_
      refine r_ra G (pn := 6) rfl rfl rfl ?_
      refine r_get G (pn := 9) rfl rfl (by first | assumption | (repeat (first | assumption | exact am_eq (by first | assumption | exact am_eq (by assumption) | exact am_ne (by first | decide | omega) (by assumption)) | refine am_ne (by first | decide | omega) ?_))) rfl ?_
      refine r_if2 G (pn := 12) rfl rfl (fun c9 => ?_) (fun c9 => ?_)
      · exact absurd ((nI_leI (by omega) (by omega)).mp c9) (by omega)
      · refine r_il G (pn := 13) rfl rfl rfl ?_
        refine r_ra G (pn := 14) rfl rfl rfl ?_
        refine r_get G (pn := 17) rfl rfl (by first | assumption | (repeat (first | assumption | exact am_eq (by first | assumption | exact am_eq (by assumption) | exact am_ne (by first | decide | omega) (by assumption)) | refine am_ne (by first | decide | omega) ?_))) rfl ?_
        refine r_il G (pn := 18) rfl rfl rfl ?_
        refine r_raldN G (pn := 19) rfl rfl h3 (by omega) (by omega) (g3 a (by omega)) ?_
        refine r_il G (pn := 20) rfl rfl rfl ?_
        refine r_ialdN G (pn := 21) rfl rfl ra (by omega) (by omega) ?_
        rw [oa i ha (by omega)]
        refine r_ib G (pn := 22) rfl rfl  ?_
        refine r_is G (pn := 23) rfl rfl (Nat.le_of_ble_eq_true rfl) ?_
        refine r_inc G (pn := 26) rfl rfl rfl (Nat.le_of_ble_eq_true rfl) ?_
        refine r_goto G rfl ?_
        rw [nI_1, nI_add]
        exact ih (i + 1) (by omega)
  exact lp n 0 (by omega)
end
