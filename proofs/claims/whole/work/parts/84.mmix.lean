/-- the model's mixture -/
def MmI (h : am_H) (m : Nat → Int32) (n : Nat) (cd mo : Nat → Nat) (od : Nat → Nat → Nat) : Prop := h[81]? = some (mO m) ∧ m 24 = nI n ∧ (∃ f, h[96]? = some (aI 10 f) ∧ ∀ i, i < n → f i = nI (cd i)) ∧ (∃ f, h[97]? = some (aI 10 f) ∧ ∀ i, i < n → f i = nI (mo i)) ∧ (∃ f, h[98]? = some (aI 100 f) ∧ ∀ i j, i < 10 → j < 10 → f (10 * i + j) = nI (if i < n ∧ j < n then od i j else 0))
def mmP (i : Nat) : Prop := i = 81 ∨ i = 96 ∨ i = 97 ∨ i = 98
theorem nI_10' (a b c : Nat) : (10 : Int32) * nI a + nI b + nI c = nI (10 * a + b + c) := by
  rw [nI_10, nI_add]
section
variable {lx : am_Lx} {d : Nat} {h : am_H} {Q : am_Q} {m : Nat → Int32}
theorem sp_51 (hd : 3 ≤ d) {n s wh b nb : Nat} {cd mo cb : Nat → Nat} {od ob : Nat → Nat → Nat} {ky : Nat → Int64} (hI : MmI h m n cd mo od) (h83 : h[83]? = some (aL 12 ky)) (hs : s < 12) (hk : ky s = lN b) (hb : b < 2 ^ 48) (h0 : mdig b 0 = nb) (h5 : nb ≤ 5) (hn : n + nb ≤ 10) (hcb : ∀ i, i < nb → mdig b (1 + i) = cb i) (hob : ∀ i j, i < nb → j < nb → mbond b i j = ob i j)
    (hq : ∀ h', am_fr mmP h h' → MmI h' (upd m 24 (nI (n + nb))) (n + nb) (mxC n cd cb) (fun i => if i < n then mo i else wh) (mxO n od ob) → Q none h') : am_KA lx d 51 [.ref 81, .int (nI s), .int (nI wh)] h Q := by
  obtain ⟨hM, m24, ⟨f6, h96, g6⟩, ⟨f7, h97, g7⟩, ⟨f8, h98, g8⟩⟩ := hI
  obtain ⟨e, rfl⟩ : ∃ e, d = e + 1 := ⟨d - 1, by omega⟩
  have G : am_GK (am_KA lx e) cd_51 := ⟨am_KA_m lx e, cm_51⟩
  refine am_KA_in (by decide) (Nat.le_of_ble_eq_true rfl) ?_
  show am_Go (am_KA lx e) (am_fetch cd_51) Q 0 [some (.ref 81), some (.int (nI s)), some (.int (nI wh)), none, none, none, none, none] [] h 0 0
  refine r_ra G (pn := 1) rfl rfl rfl ?_
  refine r_get G (pn := 4) rfl rfl (by first | assumption | (repeat (first | assumption | exact am_eq (by first | assumption | exact am_eq (by assumption) | exact am_ne (by first | decide | omega) (by assumption)) | refine am_ne (by first | decide | omega) ?_))) rfl ?_
  refine r_il G (pn := 5) rfl rfl rfl ?_
  refine r_laldN G (pn := 6) rfl rfl h83 hs (by omega) ?_
  refine r_ls G (pn := 7) rfl rfl (Nat.le_of_ble_eq_true rfl) ?_
  refine r_ll G (pn := 8) rfl rfl rfl ?_
  refine r_ic G (pn := 9) rfl rfl  ?_
  rw [hk]
  refine r_ins2 G (pn := 12) rfl rfl (Nat.le_of_ble_eq_true rfl) (Nat.le_of_ble_eq_true rfl) (Nat.le_of_ble_eq_true rfl) (sp_41 (k := 0) (by omega) hb (by omega) ?_)
  show am_Go (am_KA lx e) (am_fetch cd_51) Q 12 [some (.ref 81), some (.int (nI s)), some (.int (nI wh)), some (.long (lN b)), none, none, none, none] [.int (nI (mdig b 0))] h 0 0
  rw [h0]
  refine r_is G (pn := 14) rfl rfl (Nat.le_of_ble_eq_true rfl) ?_
  refine r_ic G (pn := 15) rfl rfl  ?_
  refine r_is G (pn := 17) rfl rfl (Nat.le_of_ble_eq_true rfl) ?_
  have lp : ∀ (k i : Nat) (h' : am_H) (f6 f7 f8 : Nat → Int32) (y7 : Option Value), i + k = nb → am_fr mmP h h' → h'[81]? = some (mO m) → h'[96]? = some (aI 10 f6) → (∀ q, q < n + i → f6 q = nI (mxC n cd cb q)) → h'[97]? = some (aI 10 f7) → (∀ q, q < n + i → f7 q = nI (if q < n then mo q else wh)) → h'[98]? = some (aI 100 f8) → (∀ a c, a < 10 → c < 10 → f8 (10 * a + c) = nI (if a < n + i ∧ c < n + nb then mxO n od ob a c else 0)) → am_Go (am_KA lx e) (am_fetch cd_51) Q 17 [some (.ref 81), some (.int (nI s)), some (.int (nI wh)), some (.long (lN b)), none, some (.int (nI nb)), some (.int (nI i)), y7] [] h' 0 0 := by
    intro k
    induction k with
    | zero =>
      intro i h' f6 f7 f8 y7 hi hf hM' k96 g6 k97 g7 k98 g8
      obtain rfl : i = nb := by omega
      refine r_il G (pn := 19) rfl rfl rfl ?_
      refine r_il G (pn := 21) rfl rfl rfl ?_
      refine r_if2 G (pn := 24) rfl rfl (fun c21 => ?_) (fun c21 => ?_)
      rotate_left
      · exact absurd (Int32.le_refl _) c21
      refine r_ra G (pn := 111) rfl rfl rfl ?_
      refine r_ra G (pn := 112) rfl rfl rfl ?_
      refine r_get G (pn := 115) rfl rfl (by first | assumption | (repeat (first | assumption | exact am_eq (by first | assumption | exact am_eq (by assumption) | exact am_ne (by first | decide | omega) (by assumption)) | refine am_ne (by first | decide | omega) ?_))) rfl ?_
      rw [m24]
      refine r_il G (pn := 117) rfl rfl rfl ?_
      refine r_ib G (pn := 118) rfl rfl  ?_
      rw [nI_add]
      refine r_puti G (pn := 121) rfl rfl (by first | assumption | (repeat (first | assumption | exact am_eq (by first | assumption | exact am_eq (by assumption) | exact am_ne (by first | decide | omega) (by assumption)) | refine am_ne (by first | decide | omega) ?_))) (Nat.le_of_ble_eq_true rfl) ?_
      refine r_vret G rfl (hq (h'.set 81 (mO (upd m 24 (nI (n + i))))) (hf.put (Or.inl rfl)) ⟨am_eq hM', rfl, ⟨f6, am_ne (by decide) k96, g6⟩, ⟨f7, am_ne (by decide) k97, g7⟩, ⟨f8, am_ne (by decide) k98, g8⟩⟩)
    | succ k ih =>
      intro i h' f6 f7 f8 y7 hi hf hM' k96 g6 k97 g7 k98 g8
      refine r_il G (pn := 19) rfl rfl rfl ?_
      refine r_il G (pn := 21) rfl rfl rfl ?_
      refine r_if2 G (pn := 24) rfl rfl (fun c21 => ?_) (fun c21 => ?_)
      · exact absurd ((nI_leI (by omega) (by omega)).mp c21) (by omega)
      refine r_ra G (pn := 25) rfl rfl rfl ?_
      refine r_get G (pn := 28) rfl rfl (by first | assumption | (repeat (first | assumption | exact am_eq (by first | assumption | exact am_eq (by assumption) | exact am_ne (by first | decide | omega) (by assumption)) | refine am_ne (by first | decide | omega) ?_))) rfl ?_
      refine r_ra G (pn := 29) rfl rfl rfl ?_
      refine r_get G (pn := 32) rfl rfl (by first | assumption | (repeat (first | assumption | exact am_eq (by first | assumption | exact am_eq (by assumption) | exact am_ne (by first | decide | omega) (by assumption)) | refine am_ne (by first | decide | omega) ?_))) rfl ?_
      rw [m24]
      refine r_il G (pn := 34) rfl rfl rfl ?_
      refine r_ib G (pn := 35) rfl rfl  ?_
      refine r_ll G (pn := 36) rfl rfl rfl ?_
      refine r_ic G (pn := 37) rfl rfl  ?_
      refine r_il G (pn := 39) rfl rfl rfl ?_
      refine r_ib G (pn := 40) rfl rfl  ?_
      rw [nI_add, show (1 : Int32) + nI i = nI (1 + i) from nI_add 1 i]
      refine r_ins2 G (pn := 43) rfl rfl (Nat.le_of_ble_eq_true rfl) (Nat.le_of_ble_eq_true rfl) (Nat.le_of_ble_eq_true rfl) (sp_41 (by omega) hb (by omega) ?_)
      show am_Go (am_KA lx e) (am_fetch cd_51) Q 43 [some (.ref 81), some (.int (nI s)), some (.int (nI wh)), some (.long (lN b)), none, some (.int (nI nb)), some (.int (nI i)), y7] [.int (nI (mdig b (1 + i))), .int (nI (n + i)), .ref 96] h' 0 0
      rw [hcb i (by omega)]
      refine r_iastN G (pn := 44) rfl rfl k96 (by omega) (by omega) ?_
      refine r_ra G (pn := 45) rfl rfl rfl ?_
      refine r_get G (pn := 48) rfl rfl (am_ne (by decide) hM') rfl ?_
      refine r_ra G (pn := 49) rfl rfl rfl ?_
      refine r_get G (pn := 52) rfl rfl (am_ne (by decide) hM') rfl ?_
      rw [m24]
      refine r_il G (pn := 54) rfl rfl rfl ?_
      refine r_ib G (pn := 55) rfl rfl  ?_
      rw [nI_add]
      refine r_il G (pn := 56) rfl rfl rfl ?_
      refine r_iastN G (pn := 57) rfl rfl (am_ne (by decide) k97) (by omega) (by omega) ?_
      refine r_ic G (pn := 58) rfl rfl  ?_
      refine r_is G (pn := 60) rfl rfl (Nat.le_of_ble_eq_true rfl) ?_
      have inner : ∀ (k2 j : Nat) (h3 : am_H) (f8 : Nat → Int32), j + k2 = nb → am_fr mmP h h3 → h3[81]? = some (mO m) → h3[96]? = some (aI 10 (upd f6 (n + i) (nI (cb i)))) → h3[97]? = some (aI 10 (upd f7 (n + i) (nI wh))) → h3[98]? = some (aI 100 f8) → (∀ a c, a < 10 → c < 10 → f8 (10 * a + c) = nI (if (a < n + i ∧ c < n + nb) ∨ (a = n + i ∧ c < n + j) then mxO n od ob a c else 0)) → am_Go (am_KA lx e) (am_fetch cd_51) Q 60 [some (.ref 81), some (.int (nI s)), some (.int (nI wh)), some (.long (lN b)), none, some (.int (nI nb)), some (.int (nI i)), some (.int (nI j))] [] h3 0 0 := by
        intro k2
        induction k2 with
        | zero =>
          intro j h3 f8 hj hf3 l81 l96 l97 l98 g8
          obtain rfl : j = nb := by omega
          refine r_il G (pn := 62) rfl rfl rfl ?_
          refine r_il G (pn := 64) rfl rfl rfl ?_
          refine r_if2 G (pn := 67) rfl rfl (fun c64 => ?_) (fun c64 => ?_)
          rotate_left
          · exact absurd (Int32.le_refl _) c64
          refine r_inc G (pn := 107) rfl rfl rfl (Nat.le_of_ble_eq_true rfl) ?_
          refine r_goto G rfl ?_
          rw [nI_1]
          refine ih (i + 1) h3 _ _ f8 _ (by omega) hf3 l81 l96 (fun q hq => ?_) l97 (fun q hq => ?_) l98 (fun a c ha hc => ?_)
          · by_cases z : q = n + i
            · rw [z, pk_us]
              unfold mxC
              rw [if_neg (by omega), Nat.add_sub_cancel_left]
            · rw [pk_un z]; exact g6 q (by omega)
          · by_cases z : q = n + i
            · rw [z, pk_us, if_neg (by omega)]
            · rw [pk_un z]; exact g7 q (by omega)
          · rw [g8 a c ha hc]
            by_cases z : (a < n + i ∧ c < n + j) ∨ (a = n + i ∧ c < n + j)
            · rw [if_pos z, if_pos (by omega)]
            · rw [if_neg z, if_neg (by omega)]
        | succ k2 ih2 =>
          intro j h3 f8 hj hf3 l81 l96 l97 l98 g8
          refine r_il G (pn := 62) rfl rfl rfl ?_
          refine r_il G (pn := 64) rfl rfl rfl ?_
          refine r_if2 G (pn := 67) rfl rfl (fun c64 => ?_) (fun c64 => ?_)
          · exact absurd ((nI_leI (by omega) (by omega)).mp c64) (by omega)
          refine r_ra G (pn := 68) rfl rfl rfl ?_
          refine r_get G (pn := 71) rfl rfl (by first | assumption | (repeat (first | assumption | exact am_eq (by first | assumption | exact am_eq (by assumption) | exact am_ne (by first | decide | omega) (by assumption)) | refine am_ne (by first | decide | omega) ?_))) rfl ?_
          refine r_ic G (pn := 73) rfl rfl  ?_
          refine r_ra G (pn := 74) rfl rfl rfl ?_
          refine r_get G (pn := 77) rfl rfl (by first | assumption | (repeat (first | assumption | exact am_eq (by first | assumption | exact am_eq (by assumption) | exact am_ne (by first | decide | omega) (by assumption)) | refine am_ne (by first | decide | omega) ?_))) rfl ?_
          rw [m24]
          refine r_il G (pn := 79) rfl rfl rfl ?_
          refine r_ib G (pn := 80) rfl rfl  ?_
          rw [nI_add]
          refine r_ib G (pn := 81) rfl rfl  ?_
          refine r_ra G (pn := 82) rfl rfl rfl ?_
          refine r_get G (pn := 85) rfl rfl (by first | assumption | (repeat (first | assumption | exact am_eq (by first | assumption | exact am_eq (by assumption) | exact am_ne (by first | decide | omega) (by assumption)) | refine am_ne (by first | decide | omega) ?_))) rfl ?_
          rw [m24]
          refine r_ib G (pn := 86) rfl rfl  ?_
          refine r_il G (pn := 88) rfl rfl rfl ?_
          refine r_ib G (pn := 89) rfl rfl  ?_
          refine r_ll G (pn := 90) rfl rfl rfl ?_
          refine r_il G (pn := 92) rfl rfl rfl ?_
          refine r_il G (pn := 94) rfl rfl rfl ?_
          rw [nI_10']
          refine r_ins3 G (pn := 97) rfl rfl (Nat.le_of_ble_eq_true rfl) (Nat.le_of_ble_eq_true rfl) (Nat.le_of_ble_eq_true rfl) (sp_42 (by omega) hb (by omega) (by omega) (by omega) ?_)
          show am_Go (am_KA lx e) (am_fetch cd_51) Q 97 [some (.ref 81), some (.int (nI s)), some (.int (nI wh)), some (.long (lN b)), none, some (.int (nI nb)), some (.int (nI i)), some (.int (nI j))] [.int (nI (mbond b i j)), .int (nI (10 * (n + i) + n + j)), .ref 98] h3 0 0
          rw [hob i j (by omega) (by omega)]
          refine r_iastN G (pn := 98) rfl rfl l98 (by omega) (by omega) ?_
          refine r_inc G (pn := 101) rfl rfl rfl (Nat.le_of_ble_eq_true rfl) ?_
          refine r_goto G rfl ?_
          rw [nI_1]
          refine ih2 (j + 1) _ _ (by omega) (hf3.put (Or.inr (Or.inr (Or.inr rfl)))) (am_ne (by decide) l81) (am_ne (by decide) l96) (am_ne (by decide) l97) (am_eq l98) (fun a c ha hc => ?_)
          by_cases z : a = n + i ∧ c = n + j
          · rw [z.1, z.2, show 10 * (n + i) + (n + j) = 10 * (n + i) + n + j by omega, pk_us, if_pos (by omega)]
            unfold mxO
            rw [if_neg (by omega), if_pos (by omega), Nat.add_sub_cancel_left, Nat.add_sub_cancel_left]
          · rw [pk_un (by omega), g8 a c ha hc]
            by_cases y : (a < n + i ∧ c < n + nb) ∨ (a = n + i ∧ c < n + j)
            · rw [if_pos y, if_pos (by omega)]
            · rw [if_neg y, if_neg (by omega)]
      refine inner nb 0 _ f8 (by omega) ((hf.put (Or.inr (Or.inl rfl))).put (Or.inr (Or.inr (Or.inl rfl)))) (am_ne (by decide) (am_ne (by decide) hM')) (am_ne (by decide) (am_eq k96)) (am_eq (am_ne (by decide) k97)) (am_ne (by decide) (am_ne (by decide) k98)) (fun a c ha hc => ?_)
      rw [g8 a c ha hc]
      by_cases y : a < n + i ∧ c < n + nb
      · rw [if_pos y, if_pos (Or.inl y)]
      · rw [if_neg y]
        split
        · rename_i z
          have z : a = n + i ∧ c < n := by omega
          unfold mxO
          rw [if_neg (by omega), if_neg (by omega)]
        · rfl
  refine lp nb 0 h f6 f7 f8 _ (by omega) am_fr.rf hM h96 (fun q hq => ?_) h97 (fun q hq => ?_) h98 (fun a c ha hc => ?_)
  · rw [g6 q (by omega)]
    unfold mxC
    rw [if_pos (by omega)]
  · rw [g7 q (by omega), if_pos (by omega)]
  · rw [g8 a c ha hc]
    by_cases z : a < n ∧ c < n
    · rw [if_pos z, if_pos (by omega)]
      unfold mxO
      rw [if_pos z]
    · rw [if_neg z]
      by_cases y : a < n + 0 ∧ c < n + nb
      · rw [if_pos y]
        unfold mxO
        rw [if_neg z, if_neg (by omega)]
      · rw [if_neg y]
def pxM (w : Nat) (ow : Option Nat) : Nat → Nat := match ow with | none => fun _ => 0 | some _ => fun i => if i < wN w then 0 else 1
theorem MmI.od {n : Nat} {cd cd' mo mo' : Nat → Nat} {od od' : Nat → Nat → Nat} (hI : MmI h m n cd mo od) (e1 : ∀ i, i < n → cd' i = cd i) (e2 : ∀ i, i < n → mo' i = mo i) (e3 : ∀ i j, i < n → j < n → od' i j = od i j) : MmI h m n cd' mo' od' := by
  obtain ⟨hM, m24, ⟨f6, h96, g6⟩, ⟨f7, h97, g7⟩, ⟨f8, h98, g8⟩⟩ := hI
  refine ⟨hM, m24, ⟨f6, h96, fun i hi => by rw [e1 i hi]; exact g6 i hi⟩, ⟨f7, h97, fun i hi => by rw [e2 i hi]; exact g7 i hi⟩, ⟨f8, h98, fun i j hi hj => ?_⟩⟩
  rw [g8 i j hi hj]
  by_cases z : i < n ∧ j < n
  · rw [if_pos z, if_pos z, e3 i j z.1 z.2]
  · rw [if_neg z, if_neg z]
theorem sp_52 (hd : 4 ≤ d) {n0 s cap : Nat} {ot : Option Nat} {W B : Nat → Nat} {f6 f7 f8 : Nat → Int32} (hcap : cap ≤ 5) (hM : h[81]? = some (mO m)) (h96 : h[96]? = some (aI 10 f6)) (h97 : h[97]? = some (aI 10 f7)) (h98 : h[98]? = some (aI 100 f8)) (hT : TbM h m n0 B) (hn0 : n0 ≤ 12) (hW : ∀ i, i < n0 → Mol cap (W i) (B i)) (hs : s < n0) (ht : ∀ t, ot = some t → t < n0)
    (hq : ∀ h' x, am_fr mmP h h' → MmI h' (upd m 24 x) (pxN (W s) (ot.map W)) (pxC (W s) (ot.map W)) (pxM (W s) (ot.map W)) (pxO (W s) (ot.map W)) → Q none h') : am_KA lx d 52 [.ref 81, .int (nI s), .int (otI ot)] h Q := by
  obtain ⟨m3, ky, h83, tk⟩ := hT
  obtain ⟨e, rfl⟩ : ∃ e, d = e + 1 := ⟨d - 1, by omega⟩
  have G : am_GK (am_KA lx e) cd_52 := ⟨am_KA_m lx e, cm_52⟩
  refine am_KA_in (by decide) (Nat.le_of_ble_eq_true rfl) ?_
  show am_Go (am_KA lx e) (am_fetch cd_52) Q 0 [some (.ref 81), some (.int (nI s)), some (.int (otI ot)), none] [] h 0 0
  refine r_ra G (pn := 1) rfl rfl rfl ?_
  refine r_ic G (pn := 2) rfl rfl  ?_
  refine r_puti G (pn := 5) rfl rfl (by first | assumption | (repeat (first | assumption | exact am_eq (by first | assumption | exact am_eq (by assumption) | exact am_ne (by first | decide | omega) (by assumption)) | refine am_ne (by first | decide | omega) ?_))) (Nat.le_of_ble_eq_true rfl) ?_
  refine r_ic G (pn := 6) rfl rfl  ?_
  refine r_is G (pn := 7) rfl rfl (Nat.le_of_ble_eq_true rfl) ?_
  have nm : ∀ i, i ≠ 81 → i ≠ 96 → i ≠ 97 → i ≠ 98 → ¬ mmP i := fun i a b c d z => by rcases z with z | z | z | z <;> omega
  have lp : ∀ (k i : Nat) (h' : am_H) (f8 : Nat → Int32), i + k = 100 → am_fr mmP h h' → h'[81]? = some (mO (upd m 24 0)) → h'[96]? = some (aI 10 f6) → h'[97]? = some (aI 10 f7) → h'[98]? = some (aI 100 f8) → (∀ q, q < i → f8 q = nI 0) → am_Go (am_KA lx e) (am_fetch cd_52) Q 7 [some (.ref 81), some (.int (nI s)), some (.int (otI ot)), some (.int (nI i))] [] h' 0 0 := by
    intro k
    induction k with
    | zero =>
      intro i h' f8 hi hf hM' k96 k97 k98 hz
      obtain rfl : i = 100 := by omega
      refine r_il G (pn := 8) rfl rfl rfl ?_
      refine r_ic G (pn := 10) rfl rfl  ?_
      refine r_if2 G (pn := 13) rfl rfl (fun c10 => ?_) (fun c10 => ?_)
      rotate_left
      · exact absurd (by decide) c10
      have hI0 : MmI h' (upd m 24 0) 0 (wC (W s)) (fun _ => 0) (wO (W s)) := ⟨hM', rfl, ⟨f6, k96, fun i hi => absurd hi (Nat.not_lt_zero i)⟩, ⟨f7, k97, fun i hi => absurd hi (Nat.not_lt_zero i)⟩, ⟨f8, k98, fun i j hi hj => by rw [hz _ (by omega), if_neg (fun z => Nat.not_lt_zero _ z.1)]⟩⟩
      have k83 : h'[83]? = some (aL 12 ky) := hf.at (nm _ (by omega) (by omega) (by omega) (by omega)) h83
      obtain ⟨w1, w2, w3, w4, w5, -⟩ := (hW s hs).w hcap
      refine r_ra G (pn := 27) rfl rfl rfl ?_
      refine r_il G (pn := 28) rfl rfl rfl ?_
      refine r_ic G (pn := 29) rfl rfl  ?_
      refine r_inv3 G (pn := 32) rfl rfl hM' (Nat.le_of_ble_eq_true rfl) (Nat.le_of_ble_eq_true rfl) (Nat.le_of_ble_eq_true rfl) (sp_51 (wh := 0) (by omega) hI0 k83 (by omega) (tk s hs).1 (tk s hs).2 w3 (by omega) (by omega) w4 w5 (fun h2 hf2 hI2 => ?_))
      rw [Nat.zero_add, show upd (upd m 24 0) 24 (nI (wN (W s))) = upd m 24 (nI (wN (W s))) by
        funext q
        by_cases z : q = 24
        · rw [z, pk_us, pk_us]
        · rw [pk_un z, pk_un z, pk_un z]] at hI2
      have hI3 : MmI h2 (upd m 24 (nI (wN (W s)))) (wN (W s)) (wC (W s)) (fun _ => 0) (wO (W s)) := hI2.od (fun i hi => rfl) (fun i hi => by rw [if_neg (Nat.not_lt_zero i)]) (fun i j hi hj => rfl)
      have hf2' := hf.tr hf2
      show am_Go (am_KA lx e) (am_fetch cd_52) Q 32 [some (.ref 81), some (.int (nI s)), some (.int (otI ot)), some (.int (nI 100))] [] h2 0 0
      refine r_il G (pn := 33) rfl rfl rfl ?_
      cases ot with
      | none =>
        refine r_if1 G (pn := 36) rfl rfl (fun c33 => ?_) (fun c33 => ?_)
        rotate_left
        · exact absurd (by decide) c33
        exact r_vret G rfl (hq h2 _ hf2' hI3)
      | some t =>
        have htn := ht t rfl
        refine r_if1 G (pn := 36) rfl rfl (fun c33 => ?_) (fun c33 => ?_)
        · exact absurd c33 (nI_pos (n := t) (by omega))
        have l83 : h2[83]? = some (aL 12 ky) := hf2'.at (nm _ (by omega) (by omega) (by omega) (by omega)) h83
        obtain ⟨v1, v2, v3, v4, v5, -⟩ := (hW t htn).w hcap
        show am_Go (am_KA lx e) (am_fetch cd_52) Q 36 [some (.ref 81), some (.int (nI s)), some (.int (nI t)), some (.int (nI 100))] [] h2 0 0
        refine r_ra G (pn := 37) rfl rfl rfl ?_
        refine r_il G (pn := 38) rfl rfl rfl ?_
        refine r_ic G (pn := 39) rfl rfl  ?_
        refine r_inv3 G (pn := 42) rfl rfl hI3.1 (Nat.le_of_ble_eq_true rfl) (Nat.le_of_ble_eq_true rfl) (Nat.le_of_ble_eq_true rfl) (sp_51 (wh := 1) (by omega) hI3 l83 (by omega) (tk t htn).1 (tk t htn).2 v3 (by omega) (by omega) v4 v5 (fun h3 hf3 hI4 => ?_))
        refine r_vret G rfl (hq h3 (nI (wN (W s) + wN (W t))) (hf2'.tr hf3) ?_)
        rw [show upd (upd m 24 (nI (wN (W s)))) 24 (nI (wN (W s) + wN (W t))) = upd m 24 (nI (wN (W s) + wN (W t))) by
          funext q
          by_cases z : q = 24
          · rw [z, pk_us, pk_us]
          · rw [pk_un z, pk_un z, pk_un z]] at hI4
        exact hI4
    | succ k ih =>
      intro i h' f8 hi hf hM' k96 k97 k98 hz
      refine r_il G (pn := 8) rfl rfl rfl ?_
      refine r_ic G (pn := 10) rfl rfl  ?_
      refine r_if2 G (pn := 13) rfl rfl (fun c10 => ?_) (fun c10 => ?_)
      · exact absurd ((nI_leI (a := 100) (by omega) (by omega)).mp c10) (by omega)
      refine r_ra G (pn := 14) rfl rfl rfl ?_
      refine r_get G (pn := 17) rfl rfl (by first | assumption | (repeat (first | assumption | exact am_eq (by first | assumption | exact am_eq (by assumption) | exact am_ne (by first | decide | omega) (by assumption)) | refine am_ne (by first | decide | omega) ?_))) rfl ?_
      refine r_il G (pn := 18) rfl rfl rfl ?_
      refine r_ic G (pn := 19) rfl rfl  ?_
      refine r_iastN G (pn := 20) rfl rfl k98 (by omega) (by omega) ?_
      refine r_inc G (pn := 23) rfl rfl rfl (Nat.le_of_ble_eq_true rfl) ?_
      refine r_goto G rfl ?_
      rw [nI_1]
      refine ih (i + 1) _ _ (by omega) (hf.put (Or.inr (Or.inr (Or.inr rfl)))) (am_ne (by decide) hM') (am_ne (by decide) k96) (am_ne (by decide) k97) (am_eq k98) (fun q hq2 => ?_)
      by_cases z : q = i
      · rw [z, pk_us]; rfl
      · rw [pk_un z]; exact hz q (by omega)
  exact lp 100 0 (h.set 81 (mO (upd m 24 0))) f8 (by omega) (am_fr.rf.put (Or.inl rfl)) (am_eq hM) (am_ne (by decide) h96) (am_ne (by decide) h97) (am_ne (by decide) h98) (fun q hq => absurd hq (Nat.not_lt_zero q))
end
