/-- a rule of the model -/
def RmI (h : am_H) (q P : Nat) (C Bf Af : Nat → Nat) : Prop := (P = 2 ∨ P = 3) ∧ (∃ f, h[84]? = some (aI 3 f) ∧ f q = nI P) ∧ (∃ f, h[85]? = some (aI 9 f) ∧ ∀ j, j < P → f (3 * q + j) = nI (C j) ∧ C j < 4) ∧ (∃ f, h[86]? = some (aI 27 f) ∧ ∀ i j, i < j → j < 3 → f (9 * q + 3 * i + j) = nI (Bf (i + j - 1)) ∧ Bf (i + j - 1) < 4) ∧ (∃ f, h[87]? = some (aI 27 f) ∧ ∀ i j, i < j → j < 3 → f (9 * q + 3 * i + j) = nI (Af (i + j - 1)) ∧ Af (i + j - 1) < 4)
theorem RmI.fr {h h' : am_H} {q P : Nat} {C Bf Af : Nat → Nat} {R : Nat → Prop} (hI : RmI h q P C Bf Af) (hf : am_fr R h h') (hR : ∀ i, 84 ≤ i → i ≤ 87 → ¬ R i) : RmI h' q P C Bf Af := by
  obtain ⟨h1, ⟨f2, h2, g2⟩, ⟨f3, h3, g3⟩, ⟨f4, h4, g4⟩, ⟨f5, h5, g5⟩⟩ := hI
  exact ⟨h1, ⟨f2, hf.at (hR _ (by omega) (by omega)) h2, g2⟩, ⟨f3, hf.at (hR _ (by omega) (by omega)) h3, g3⟩, ⟨f4, hf.at (hR _ (by omega) (by omega)) h4, g4⟩, ⟨f5, hf.at (hR _ (by omega) (by omega)) h5, g5⟩⟩
/-- an equivalence that arithmetic does not look into -/
def Eqv (a b : Prop) : Prop := a ↔ b
theorem Eqv.mp {a b : Prop} (h : Eqv a b) : a → b := Iff.mp h
theorem Eqv.mpr {a b : Prop} (h : Eqv a b) : b → a := Iff.mpr h
theorem Eqv.iff {a b : Prop} (h : Eqv a b) : a ↔ b := h
def oy (x b : Nat) : Nat := if b = 0 then (if x % 2 = 1 then x else x + 1) else (if x / 2 = 1 then x else x + 2)
theorem oy_ok : ∀ x, x < 4 → ∀ b, b < 2 → nI x ||| ((1 : Int32) <<< (nI b &&& 31)) = nI (oy x b) ∧ oy x b < 4 ∧ (oy x b % 2 = 1 ↔ (x % 2 = 1 ∨ b = 0)) ∧ (oy x b / 2 = 1 ↔ (x / 2 = 1 ∨ b = 1)) := by decide
theorem nI_9l (a : Nat) : (9 : Int32) * nI a = nI (9 * a) := pk_mul 9 a
theorem nI_3l (a : Nat) : (3 : Int32) * nI a = nI (3 * a) := pk_mul 3 a
theorem nI_5l (a : Nat) : (5 : Int32) * nI a = nI (5 * a) := pk_mul 5 a
theorem nI_m (a b : Nat) {k : Int32} (hk : k = nI a) : k * nI b = nI (a * b) := by
  rw [hk]
  exact pk_mul a b
section
variable {lx : am_Lx} {d : Nat} {h : am_H} {Q : am_Q} {m : Nat → Int32}
set_option maxRecDepth 20000 in
theorem sp_53 (hd : 1 ≤ d) {q P n lb : Nat} {two : Bool} {C Bf Af cd mo c : Nat → Nat} {od : Nat → Nat → Nat} (hI : MmI h m n cd mo od) (hn : n ≤ 10) (hcd : ∀ i, i < n → cd i < 4) (hod : ∀ i j, i < n → j < n → od i j < 4) (hR : RmI h q P C Bf Af) (hq3 : q < 3) (hC : ∃ f, h[101]? = some (aI 3 f) ∧ ∀ j, j < P → f j = nI (c j)) (hc : ∀ j, j < P → c j < n) (hmo : ∀ i, i < n → mo i = if two = true ∧ lb ≤ i then 1 else 0) (hlb : two = false → lb = 0) (hlb2 : two = true → 1 ≤ lb)
    (hno : ¬ Mt P n lb C Bf cd od c → Q (some (.int 0)) h) (hyes : Mt P n lb C Bf cd od c → Q (some (.int 1)) h) : am_KA lx d 53 [.ref 81, .int (nI q), .int (if two then 2 else 1)] h Q := by
  obtain ⟨hM, m24, ⟨f6, h96, g6⟩, ⟨f7, h97, g7⟩, ⟨f8, h98, g8⟩⟩ := hI
  obtain ⟨hP, ⟨fp, h84, gp⟩, ⟨fl, h85, gl⟩, ⟨fb, h86, gb⟩, -⟩ := hR
  obtain ⟨fc, h101, gc⟩ := hC
  obtain ⟨e, rfl⟩ : ∃ e, d = e + 1 := ⟨d - 1, by omega⟩
  have G : am_GK (am_KA lx e) cd_53 := ⟨am_KA_m lx e, cm_53⟩
  refine am_KA_in (by decide) (Nat.le_of_ble_eq_true rfl) ?_
  show am_Go (am_KA lx e) (am_fetch cd_53) Q 0 [some (.ref 81), some (.int (nI q)), some (.int (if two then 2 else 1)), none, none, none, none, none] [] h 0 0
  have fin : ∀ (x of : Nat) (y6 y7 : Option Value), x ≤ 1 → of < 4 → (x = 1 ↔ ∀ j, j < P → fitA C Bf cd od c j (c j)) → Eqv (of % 2 = 1) (∃ j, j < P ∧ mo (c j) = 0) → Eqv (of / 2 = 1) (∃ j, j < P ∧ mo (c j) = 1) → am_Go (am_KA lx e) (am_fetch cd_53) Q 178 [some (.ref 81), some (.int (nI q)), some (.int (if two then 2 else 1)), some (.int (nI x)), some (.int (nI of)), some (.int (nI P)), y6, y7] [] h 0 0 := by
    intro x of y6 y7 hx hof e1 e2 e3
    have key : Mt P n lb C Bf cd od c ↔ (x = 1 ∧ of = if two then 3 else 1) := by
      have ec : (∀ j, j < P → c j < n ∧ fitA C Bf cd od c j (c j)) ↔ x = 1 := by
        rw [e1]
        exact ⟨fun z j hj => (z j hj).2, fun z j hj => ⟨hc j hj, z j hj⟩⟩
      unfold Mt
      rw [ec]
      have et : Tch P lb c ↔ of = if two then 3 else 1 := by
        cases two with
        | false =>
          have hl := hlb rfl
          have m0 : ∀ j, j < P → mo (c j) = 0 := fun j hj => by rw [hmo _ (hc j hj), if_neg (fun z => absurd z.1 (by decide))]
          have p1 : of % 2 = 1 := e2.mpr ⟨0, by omega, m0 0 (by omega)⟩
          have p2 : ¬ of / 2 = 1 := fun z => by
            obtain ⟨j, hj, z⟩ := e3.mp z
            rw [m0 j hj] at z
            omega
          refine ⟨fun _ => by show of = 1; omega, fun _ => ⟨Or.inl hl, 0, by omega, by omega⟩⟩
        | true =>
          have m0 : ∀ j, j < P → (mo (c j) = 0 ↔ c j < lb) ∧ (mo (c j) = 1 ↔ lb ≤ c j) := fun j hj => by
            rw [hmo _ (hc j hj)]
            by_cases z : lb ≤ c j
            · rw [if_pos ⟨rfl, z⟩]; omega
            · rw [if_neg (fun y => z y.2)]; omega
          constructor
          · rintro ⟨t1, j, hj, t2⟩
            have p2 : of / 2 = 1 := e3.mpr ⟨j, hj, (m0 j hj).2.mpr t2⟩
            have p1 : of % 2 = 1 ∨ lb = 0 := by
              rcases t1 with z | ⟨i, hi, z⟩
              · exact Or.inr z
              · exact Or.inl (e2.mpr ⟨i, hi, (m0 i hi).1.mpr z⟩)
            have := hlb2 rfl
            show of = 3
            omega
          · intro z
            have z : of = 3 := z
            obtain ⟨i, hi, y1⟩ := e2.mp (by omega)
            obtain ⟨j, hj, y2⟩ := e3.mp (by omega)
            exact ⟨Or.inr ⟨i, hi, (m0 i hi).1.mp y1⟩, j, hj, (m0 j hj).2.mp y2⟩
      rw [et]
    refine r_il G (pn := 179) rfl rfl rfl ?_
    refine r_if1 G (pn := 182) rfl rfl (fun c179 => ?_) (fun c179 => ?_)
    · have hx0 : x = 0 := (nI_eq (b := 0) (by omega) (by omega)).mp c179
      refine r_ic G (pn := 202) rfl rfl  ?_
      refine r_iret G rfl (by decide) (hno (fun z => by have := (key.mp z).1; omega))
    have hx1 : x = 1 := by
      have : x ≠ 0 := fun z => c179 (by rw [z]; rfl)
      omega
    have g194 : ∀ k : Nat, k < 4 → (k = if two then 3 else 1) → am_Go (am_KA lx e) (am_fetch cd_53) Q 194 [some (.ref 81), some (.int (nI q)), some (.int (if two then 2 else 1)), some (.int (nI x)), some (.int (nI of)), some (.int (nI P)), y6, y7] [.int (nI k), .int (nI of)] h 0 0 := by
      intro k hk ek
      refine r_if2 G (pn := 197) rfl rfl (fun c194 => ?_) (fun c194 => ?_)
      · refine r_ic G (pn := 202) rfl rfl  ?_
        refine r_iret G rfl (by decide) (hno (fun z => c194 (by rw [(key.mp z).2, ek])))
      · refine r_ic G (pn := 198) rfl rfl  ?_
        refine r_goto G rfl ?_
        refine r_iret G rfl (by decide) (hyes (key.mpr ⟨hx1, by rw [← ek]; exact (nI_eq (by omega) (by omega)).mp (Classical.byContradiction c194)⟩))
    refine r_il G (pn := 184) rfl rfl rfl ?_
    refine r_il G (pn := 185) rfl rfl rfl ?_
    refine r_ic G (pn := 186) rfl rfl  ?_
    cases two with
    | false =>
      refine r_if2 G (pn := 189) rfl rfl (fun c186 => ?_) (fun c186 => ?_)
      · exact absurd rfl c186
      refine r_ic G (pn := 190) rfl rfl  ?_
      refine r_goto G rfl ?_
      exact g194 1 (by omega) rfl
    | true =>
      refine r_if2 G (pn := 189) rfl rfl (fun c186 => ?_) (fun c186 => ?_)
      rotate_left
      · exact absurd (by decide) c186
      refine r_ic G (pn := 194) rfl rfl  ?_
      exact g194 3 (by omega) rfl
  have lp : ∀ (k j x of : Nat) (y6 y7 : Option Value), j + k = P → x ≤ 1 → of < 4 → (x = 1 ↔ ∀ p, p < j → fitA C Bf cd od c p (c p)) → Eqv (of % 2 = 1) (∃ p, p < j ∧ mo (c p) = 0) → Eqv (of / 2 = 1) (∃ p, p < j ∧ mo (c p) = 1) → am_Go (am_KA lx e) (am_fetch cd_53) Q 8 [some (.ref 81), some (.int (nI q)), some (.int (if two then 2 else 1)), some (.int (nI x)), some (.int (nI of)), some (.int (nI j)), y6, y7] [] h 0 0 := by
    intro k
    induction k with
    | zero =>
      intro j x of y6 y7 hj hx hof e1 e2 e3
      obtain rfl : j = P := by omega
      refine r_il G (pn := 10) rfl rfl rfl ?_
      refine r_ra G (pn := 11) rfl rfl rfl ?_
      refine r_get G (pn := 14) rfl rfl (by first | assumption | (repeat (first | assumption | exact am_eq (by first | assumption | exact am_eq (by assumption) | exact am_ne (by first | decide | omega) (by assumption)) | refine am_ne (by first | decide | omega) ?_))) rfl ?_
      refine r_il G (pn := 15) rfl rfl rfl ?_
      refine r_ialdN G (pn := 16) rfl rfl h84 hq3 (by omega) ?_
      rw [gp]
      refine r_if2 G (pn := 19) rfl rfl (fun c16 => ?_) (fun c16 => ?_)
      rotate_left
      · exact absurd (Int32.le_refl _) c16
      exact fin x of y6 y7 hx hof e1 e2 e3
    | succ k ih =>
      intro j x of y6 y7 hj hx hof e1 e2 e3
      have cj := hc j (by omega)
      obtain ⟨gl1, gl2⟩ := gl j (by omega)
      have cdj := hcd _ cj
      refine r_il G (pn := 10) rfl rfl rfl ?_
      refine r_ra G (pn := 11) rfl rfl rfl ?_
      refine r_get G (pn := 14) rfl rfl (by first | assumption | (repeat (first | assumption | exact am_eq (by first | assumption | exact am_eq (by assumption) | exact am_ne (by first | decide | omega) (by assumption)) | refine am_ne (by first | decide | omega) ?_))) rfl ?_
      refine r_il G (pn := 15) rfl rfl rfl ?_
      refine r_ialdN G (pn := 16) rfl rfl h84 hq3 (by omega) ?_
      rw [gp]
      refine r_if2 G (pn := 19) rfl rfl (fun c16 => ?_) (fun c16 => ?_)
      · exact absurd ((nI_leI (by omega) (by omega)).mp c16) (by omega)
      have g54 : ∀ x1 : Nat, x1 ≤ 1 → (x1 = 1 ↔ (x = 1 ∧ cd (c j) = C j)) → am_Go (am_KA lx e) (am_fetch cd_53) Q 54 [some (.ref 81), some (.int (nI q)), some (.int (if two then 2 else 1)), some (.int (nI x)), some (.int (nI of)), some (.int (nI j)), y6, y7] [.int (nI x1)] h 0 0 := by
        intro x1 hx1 ex1
        have mo2 : mo (c j) < 2 := by
          rw [hmo _ cj]
          split <;> omega
        obtain ⟨o1, o2, o3, o4⟩ := oy_ok of hof (mo (c j)) mo2
        refine r_is G (pn := 55) rfl rfl (Nat.le_of_ble_eq_true rfl) ?_
        refine r_il G (pn := 57) rfl rfl rfl ?_
        refine r_ic G (pn := 58) rfl rfl  ?_
        refine r_ra G (pn := 59) rfl rfl rfl ?_
        refine r_get G (pn := 62) rfl rfl (by first | assumption | (repeat (first | assumption | exact am_eq (by first | assumption | exact am_eq (by assumption) | exact am_ne (by first | decide | omega) (by assumption)) | refine am_ne (by first | decide | omega) ?_))) rfl ?_
        refine r_ra G (pn := 63) rfl rfl rfl ?_
        refine r_get G (pn := 66) rfl rfl (by first | assumption | (repeat (first | assumption | exact am_eq (by first | assumption | exact am_eq (by assumption) | exact am_ne (by first | decide | omega) (by assumption)) | refine am_ne (by first | decide | omega) ?_))) rfl ?_
        refine r_il G (pn := 68) rfl rfl rfl ?_
        refine r_ialdN G (pn := 69) rfl rfl h101 (by omega) (by omega) ?_
        rw [gc j (by omega)]
        refine r_ialdN G (pn := 70) rfl rfl h97 (by omega) (by omega) ?_
        rw [g7 _ cj]
        refine r_ib G (pn := 71) rfl rfl  ?_
        refine r_ib G (pn := 72) rfl rfl  ?_
        rw [o1]
        refine r_is G (pn := 74) rfl rfl (Nat.le_of_ble_eq_true rfl) ?_
        refine r_ic G (pn := 75) rfl rfl  ?_
        refine r_is G (pn := 77) rfl rfl (Nat.le_of_ble_eq_true rfl) ?_
        have inner : ∀ (k2 i x2 : Nat) (y7 : Option Value), i + k2 = j → x2 ≤ 1 → (x2 = 1 ↔ (x1 = 1 ∧ ∀ p, p < i → c p ≠ c j ∧ od (c p) (c j) = Bf (p + j - 1))) → am_Go (am_KA lx e) (am_fetch cd_53) Q 77 [some (.ref 81), some (.int (nI q)), some (.int (if two then 2 else 1)), some (.int (nI x2)), some (.int (nI (oy of (mo (c j))))), some (.int (nI j)), some (.int (nI i)), y7] [] h 0 0 := by
          intro k2
          induction k2 with
          | zero =>
            intro i x2 y7 hi hx2 ex2
            obtain rfl : i = j := by omega
            refine r_il G (pn := 79) rfl rfl rfl ?_
            refine r_il G (pn := 81) rfl rfl rfl ?_
            refine r_if2 G (pn := 84) rfl rfl (fun c81 => ?_) (fun c81 => ?_)
            rotate_left
            · exact absurd (Int32.le_refl _) c81
            refine r_inc G (pn := 175) rfl rfl rfl (Nat.le_of_ble_eq_true rfl) ?_
            refine r_goto G rfl ?_
            rw [nI_1]
            refine ih (i + 1) x2 (oy of (mo (c i))) _ _ (by omega) hx2 o2 ?_ ?_ ?_
            · rw [ex2, ex1, e1]
              constructor
              · rintro ⟨⟨z1, z2⟩, z3⟩ p hp
                by_cases w : p = i
                · rw [w]; exact ⟨z2, z3⟩
                · exact z1 p (by omega)
              · intro z
                exact ⟨⟨fun p hp => z p (by omega), (z i (by omega)).1⟩, (z i (by omega)).2⟩
            · refine (show _ ↔ _ from ?_)
              rw [o3, e2.iff]
              constructor
              · rintro (⟨p, hp, z⟩ | z)
                · exact ⟨p, by omega, z⟩
                · exact ⟨i, by omega, z⟩
              · rintro ⟨p, hp, z⟩
                by_cases w : p = i
                · rw [w] at z; exact Or.inr z
                · exact Or.inl ⟨p, by omega, z⟩
            · refine (show _ ↔ _ from ?_)
              rw [o4, e3.iff]
              constructor
              · rintro (⟨p, hp, z⟩ | z)
                · exact ⟨p, by omega, z⟩
                · exact ⟨i, by omega, z⟩
              · rintro ⟨p, hp, z⟩
                by_cases w : p = i
                · rw [w] at z; exact Or.inr z
                · exact Or.inl ⟨p, by omega, z⟩
          | succ k2 ih2 =>
            intro i x2 y7 hi hx2 ex2
            have ci := hc i (by omega)
            refine r_il G (pn := 79) rfl rfl rfl ?_
            refine r_il G (pn := 81) rfl rfl rfl ?_
            refine r_if2 G (pn := 84) rfl rfl (fun c81 => ?_) (fun c81 => ?_)
            · exact absurd ((nI_leI (by omega) (by omega)).mp c81) (by omega)
            have g165 : ∀ (x3 : Nat) (y7 : Option Value), x3 ≤ 1 → (x3 = 1 ↔ (x2 = 1 ∧ c i ≠ c j ∧ od (c i) (c j) = Bf (i + j - 1))) → am_Go (am_KA lx e) (am_fetch cd_53) Q 165 [some (.ref 81), some (.int (nI q)), some (.int (if two then 2 else 1)), some (.int (nI x2)), some (.int (nI (oy of (mo (c j))))), some (.int (nI j)), some (.int (nI i)), y7] [.int (nI x3)] h 0 0 := by
              intro x3 y7 hx3 ex3
              refine r_is G (pn := 166) rfl rfl (Nat.le_of_ble_eq_true rfl) ?_
              refine r_inc G (pn := 169) rfl rfl rfl (Nat.le_of_ble_eq_true rfl) ?_
              refine r_goto G rfl ?_
              rw [nI_1]
              refine ih2 (i + 1) x3 _ (by omega) hx3 ?_
              rw [ex3, ex2]
              constructor
              · rintro ⟨⟨z1, z2⟩, z3⟩
                refine ⟨z1, fun p hp => ?_⟩
                by_cases w : p = i
                · rw [w]; exact z3
                · exact z2 p (by omega)
              · rintro ⟨z1, z2⟩
                exact ⟨⟨z1, fun p hp => z2 p (by omega)⟩, z2 i (by omega)⟩
            have g106 : ∀ sa : Nat, sa ≤ 1 → (sa = 1 ↔ c i = c j) → am_Go (am_KA lx e) (am_fetch cd_53) Q 106 [some (.ref 81), some (.int (nI q)), some (.int (if two then 2 else 1)), some (.int (nI x2)), some (.int (nI (oy of (mo (c j))))), some (.int (nI j)), some (.int (nI i)), y7] [.int (nI sa)] h 0 0 := by
              intro sa hsa esa
              refine r_is G (pn := 108) rfl rfl (Nat.le_of_ble_eq_true rfl) ?_
              refine r_il G (pn := 109) rfl rfl rfl ?_
              refine r_if1 G (pn := 112) rfl rfl (fun c109 => ?_) (fun c109 => ?_)
              · have z0 : x2 = 0 := (nI_eq (b := 0) (by omega) (by omega)).mp c109
                refine r_ic G (pn := 165) rfl rfl  ?_
                exact g165 0 _ (by omega) ⟨fun z => by omega, fun z => by omega⟩
              have z1 : x2 = 1 := by
                have : x2 ≠ 0 := fun z => c109 (by rw [z]; rfl)
                omega
              refine r_il G (pn := 114) rfl rfl rfl ?_
              refine r_if1 G (pn := 117) rfl rfl (fun c114 => ?_) (fun c114 => ?_)
              · have y1 : sa ≠ 0 := fun z => c114 (by rw [z]; rfl)
                refine r_ic G (pn := 165) rfl rfl  ?_
                exact g165 0 _ (by omega) ⟨fun z => by omega, fun z => absurd (esa.mp (by omega)) z.2.1⟩
              have y0 : sa = 0 := (nI_eq (b := 0) (by omega) (by omega)).mp (Classical.byContradiction c114)
              have nij : c i ≠ c j := fun z => by have := esa.mpr z; omega
              refine r_ra G (pn := 118) rfl rfl rfl ?_
              refine r_get G (pn := 121) rfl rfl (by first | assumption | (repeat (first | assumption | exact am_eq (by first | assumption | exact am_eq (by assumption) | exact am_ne (by first | decide | omega) (by assumption)) | refine am_ne (by first | decide | omega) ?_))) rfl ?_
              refine r_ic G (pn := 123) rfl rfl  ?_
              refine r_ra G (pn := 124) rfl rfl rfl ?_
              refine r_get G (pn := 127) rfl rfl (by first | assumption | (repeat (first | assumption | exact am_eq (by first | assumption | exact am_eq (by assumption) | exact am_ne (by first | decide | omega) (by assumption)) | refine am_ne (by first | decide | omega) ?_))) rfl ?_
              refine r_il G (pn := 129) rfl rfl rfl ?_
              refine r_ialdN G (pn := 130) rfl rfl h101 (by omega) (by omega) ?_
              rw [gc i (by omega)]
              refine r_ib G (pn := 131) rfl rfl  ?_
              refine r_ra G (pn := 132) rfl rfl rfl ?_
              refine r_get G (pn := 135) rfl rfl (by first | assumption | (repeat (first | assumption | exact am_eq (by first | assumption | exact am_eq (by assumption) | exact am_ne (by first | decide | omega) (by assumption)) | refine am_ne (by first | decide | omega) ?_))) rfl ?_
              refine r_il G (pn := 137) rfl rfl rfl ?_
              refine r_ialdN G (pn := 138) rfl rfl h101 (by omega) (by omega) ?_
              rw [gc j (by omega)]
              refine r_ib G (pn := 139) rfl rfl  ?_
              rw [nI_10]
              refine r_ialdN G (pn := 140) rfl rfl h98 (by omega) (by omega) ?_
              refine r_ra G (pn := 141) rfl rfl rfl ?_
              refine r_get G (pn := 144) rfl rfl (by first | assumption | (repeat (first | assumption | exact am_eq (by first | assumption | exact am_eq (by assumption) | exact am_ne (by first | decide | omega) (by assumption)) | refine am_ne (by first | decide | omega) ?_))) rfl ?_
              refine r_ic G (pn := 146) rfl rfl  ?_
              refine r_il G (pn := 147) rfl rfl rfl ?_
              refine r_ib G (pn := 148) rfl rfl  ?_
              refine r_ic G (pn := 149) rfl rfl  ?_
              refine r_il G (pn := 151) rfl rfl rfl ?_
              refine r_ib G (pn := 152) rfl rfl  ?_
              refine r_ib G (pn := 153) rfl rfl  ?_
              refine r_il G (pn := 155) rfl rfl rfl ?_
              refine r_ib G (pn := 156) rfl rfl  ?_
              rw [g8 _ _ (by omega) (by omega), if_pos (show c i < n ∧ c j < n from ⟨ci, cj⟩), nI_9l, nI_3l, nI_add, nI_add]
              refine r_ialdN G (pn := 157) rfl rfl h86 (by omega) (by omega) ?_
              obtain ⟨b1, b2⟩ := gb i j (by omega) (by omega)
              have := hod _ _ ci cj
              rw [b1]
              refine r_if2 G (pn := 160) rfl rfl (fun c157 => ?_) (fun c157 => ?_)
              · refine r_ic G (pn := 165) rfl rfl  ?_
                exact g165 0 _ (by omega) ⟨fun z => by omega, fun z => absurd (by rw [z.2.2]) c157⟩
              · refine r_ic G (pn := 161) rfl rfl  ?_
                refine r_goto G rfl ?_
                exact g165 1 _ (by omega) ⟨fun _ => ⟨z1, nij, (nI_eq (by omega) (by omega)).mp (Classical.byContradiction c157)⟩, fun _ => rfl⟩
            refine r_ra G (pn := 85) rfl rfl rfl ?_
            refine r_get G (pn := 88) rfl rfl (by first | assumption | (repeat (first | assumption | exact am_eq (by first | assumption | exact am_eq (by assumption) | exact am_ne (by first | decide | omega) (by assumption)) | refine am_ne (by first | decide | omega) ?_))) rfl ?_
            refine r_il G (pn := 90) rfl rfl rfl ?_
            refine r_ialdN G (pn := 91) rfl rfl h101 (by omega) (by omega) ?_
            refine r_ra G (pn := 92) rfl rfl rfl ?_
            refine r_get G (pn := 95) rfl rfl (by first | assumption | (repeat (first | assumption | exact am_eq (by first | assumption | exact am_eq (by assumption) | exact am_ne (by first | decide | omega) (by assumption)) | refine am_ne (by first | decide | omega) ?_))) rfl ?_
            refine r_il G (pn := 97) rfl rfl rfl ?_
            refine r_ialdN G (pn := 98) rfl rfl h101 (by omega) (by omega) ?_
            rw [gc i (by omega), gc j (by omega)]
            refine r_if2 G (pn := 101) rfl rfl (fun c98 => ?_) (fun c98 => ?_)
            · refine r_ic G (pn := 106) rfl rfl  ?_
              exact g106 0 (by omega) ⟨fun z => by omega, fun z => absurd (by rw [z]) c98⟩
            · refine r_ic G (pn := 102) rfl rfl  ?_
              refine r_goto G rfl ?_
              exact g106 1 (by omega) ⟨fun _ => (nI_eq (by omega) (by omega)).mp (Classical.byContradiction c98), fun _ => rfl⟩
        exact inner j 0 x1 _ (by omega) hx1 ⟨fun z => ⟨z, fun p hp => absurd hp (Nat.not_lt_zero p)⟩, fun z => z.1⟩
      refine r_il G (pn := 20) rfl rfl rfl ?_
      refine r_if1 G (pn := 23) rfl rfl (fun c20 => ?_) (fun c20 => ?_)
      · have z0 : x = 0 := (nI_eq (b := 0) (by omega) (by omega)).mp c20
        refine r_ic G (pn := 54) rfl rfl  ?_
        exact g54 0 (by omega) ⟨fun z => by omega, fun z => by omega⟩
      have z1 : x = 1 := by
        have : x ≠ 0 := fun z => c20 (by rw [z]; rfl)
        omega
      refine r_ra G (pn := 24) rfl rfl rfl ?_
      refine r_get G (pn := 27) rfl rfl (by first | assumption | (repeat (first | assumption | exact am_eq (by first | assumption | exact am_eq (by assumption) | exact am_ne (by first | decide | omega) (by assumption)) | refine am_ne (by first | decide | omega) ?_))) rfl ?_
      refine r_ra G (pn := 28) rfl rfl rfl ?_
      refine r_get G (pn := 31) rfl rfl (by first | assumption | (repeat (first | assumption | exact am_eq (by first | assumption | exact am_eq (by assumption) | exact am_ne (by first | decide | omega) (by assumption)) | refine am_ne (by first | decide | omega) ?_))) rfl ?_
      refine r_il G (pn := 33) rfl rfl rfl ?_
      refine r_ialdN G (pn := 34) rfl rfl h101 (by omega) (by omega) ?_
      rw [gc j (by omega)]
      refine r_ialdN G (pn := 35) rfl rfl h96 (by omega) (by omega) ?_
      refine r_ra G (pn := 36) rfl rfl rfl ?_
      refine r_get G (pn := 39) rfl rfl (by first | assumption | (repeat (first | assumption | exact am_eq (by first | assumption | exact am_eq (by assumption) | exact am_ne (by first | decide | omega) (by assumption)) | refine am_ne (by first | decide | omega) ?_))) rfl ?_
      refine r_ic G (pn := 40) rfl rfl  ?_
      refine r_il G (pn := 41) rfl rfl rfl ?_
      refine r_ib G (pn := 42) rfl rfl  ?_
      refine r_il G (pn := 44) rfl rfl rfl ?_
      refine r_ib G (pn := 45) rfl rfl  ?_
      rw [g6 _ cj, nI_3l, nI_add]
      refine r_ialdN G (pn := 46) rfl rfl h85 (by omega) (by omega) ?_
      rw [gl1]
      refine r_if2 G (pn := 49) rfl rfl (fun c46 => ?_) (fun c46 => ?_)
      · refine r_ic G (pn := 54) rfl rfl  ?_
        exact g54 0 (by omega) ⟨fun z => by omega, fun z => absurd (by rw [z.2]) c46⟩
      · refine r_ic G (pn := 50) rfl rfl  ?_
        refine r_goto G rfl ?_
        exact g54 1 (by omega) ⟨fun _ => ⟨z1, (nI_eq (by omega) (by omega)).mp (Classical.byContradiction c46)⟩, fun _ => rfl⟩
  refine r_ic G (pn := 1) rfl rfl  ?_
  refine r_is G (pn := 2) rfl rfl (Nat.le_of_ble_eq_true rfl) ?_
  refine r_ic G (pn := 3) rfl rfl  ?_
  refine r_is G (pn := 5) rfl rfl (Nat.le_of_ble_eq_true rfl) ?_
  refine r_ic G (pn := 6) rfl rfl  ?_
  refine r_is G (pn := 8) rfl rfl (Nat.le_of_ble_eq_true rfl) ?_
  exact lp P 0 1 0 none none (by omega) (by omega) (by omega) ⟨fun _ p hp => absurd hp (Nat.not_lt_zero p), fun _ => rfl⟩ ⟨fun z => absurd z (by omega), fun ⟨p, hp, _⟩ => absurd hp (Nat.not_lt_zero p)⟩ ⟨fun z => absurd z (by omega), fun ⟨p, hp, _⟩ => absurd hp (Nat.not_lt_zero p)⟩
end
