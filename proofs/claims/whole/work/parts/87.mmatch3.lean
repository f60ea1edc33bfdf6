theorem px_ok {cap : Nat} {w b : Nat} {ow : Option Nat} (h5 : cap ≤ 5) (hw : Mol cap w b) (ho : ∀ v, ow = some v → ∃ b, Mol cap v b) : 1 ≤ pxN w ow ∧ pxN w ow ≤ 10 ∧ pxL w ow ≤ 10 ∧ (ow.isSome = false → pxL w ow = 0) ∧ (ow.isSome = true → 1 ≤ pxL w ow) ∧ ∀ i, pxM w ow i = if ow.isSome = true ∧ pxL w ow ≤ i then 1 else 0 := by
  obtain ⟨w1, w2, -⟩ := hw.w h5
  cases ow with
  | none => exact ⟨w1, by show wN w ≤ 10; omega, Nat.zero_le _, fun _ => rfl, fun z => absurd z (by decide), fun i => by rw [if_neg (fun z => absurd z.1 (by decide))]; rfl⟩
  | some v =>
    obtain ⟨b', hv⟩ := ho v rfl
    obtain ⟨v1, v2, -⟩ := hv.w h5
    refine ⟨by show 1 ≤ wN w + wN v; omega, by show wN w + wN v ≤ 10; omega, by show wN w ≤ 10; omega, (fun z => by cases z), fun _ => w1, fun i => ?_⟩
    show (if i < wN w then 0 else 1) = if true = true ∧ wN w ≤ i then 1 else 0
    by_cases z : i < wN w
    · rw [if_pos z, if_neg (by omega)]
    · rw [if_neg z, if_pos ⟨rfl, by omega⟩]
def m2P (i : Nat) : Prop := i = 81 ∨ i = 96 ∨ i = 97 ∨ i = 98 ∨ i = 101
section
variable {lx : am_Lx} {d : Nat} {h : am_H} {Q : am_Q} {m : Nat → Int32}
theorem sp_56 (hd : 5 ≤ d) {n0 cap rc : Nat} {r s t : Int32} {W B : Nat → Nat} {P : Nat → Nat} {C Bf Af : Nat → Nat → Nat} (hcap : cap ≤ 5) (hM : h[81]? = some (mO m)) (hS : MsI h) (hm5 : m 5 = nI rc) (hrc : rc ≤ 3) (hT : TbM h m n0 B) (hn0 : n0 ≤ 12) (hW : ∀ i, i < n0 → Mol cap (W i) (B i)) (hR : ∀ i, i < rc → RmI h i (P i) (C i) (Bf i) (Af i))
    (hno : ¬ maOk rc n0 r s t → Q (some (.int (-1))) h) (hyes : ∀ q a ot h' x, r = nI q → q < rc → s = nI a → a < n0 → t = otI ot → (∀ b, ot = some b → b < n0) → am_fr m2P h h' → MsI h' → h'[81]? = some (mO (upd m 24 x)) → Q (some (.int (nI (cn (mtB (P q) (pxN (W a) (ot.map W)) (pxL (W a) (ot.map W)) (C q) (Bf q) (pxC (W a) (ot.map W)) (pxO (W a) (ot.map W))) id 0 (pxN (W a) (ot.map W) ^ P q))))) h') : am_KA lx d 56 [.ref 81, .int r, .int s, .int t] h Q := by
  have m3 := hT.1
  obtain ⟨e, rfl⟩ : ∃ e, d = e + 1 := ⟨d - 1, by omega⟩
  have G : am_GK (am_KA lx e) cd_56 := ⟨am_KA_m lx e, cm_56⟩
  refine am_KA_in (by decide) (Nat.le_of_ble_eq_true rfl) ?_
  show am_Go (am_KA lx e) (am_fetch cd_56) Q 0 [some (.ref 81), some (.int r), some (.int s), some (.int t), none, none, none] [] h 0 0
  have no : ¬ maOk rc n0 r s t → am_Go (am_KA lx e) (am_fetch cd_56) Q 33 [some (.ref 81), some (.int r), some (.int s), some (.int t), none, none, none] [] h 0 0 := by
    intro z
    refine r_ic G (pn := 34) rfl rfl  ?_
    refine r_iret G rfl rfl (hno z)
  have otneg : ∀ ot : Option Nat, (∀ b, ot = some b → b < n0) → otI ot ≠ -1 → ¬ otI ot < 0 ∧ ¬ nI n0 ≤ otI ot := by
    intro ot ho hne
    cases ot with
    | none => exact absurd rfl hne
    | some b =>
      have := ho b rfl
      exact ⟨nI_pos (by omega), fun z => by have := (nI_leI (by omega) (by omega)).mp z; omega⟩
  refine r_il G (pn := 1) rfl rfl rfl ?_
  refine r_if1 G (pn := 4) rfl rfl (fun c1 => ?_) (fun c1 => ?_)
  · refine no (fun ⟨q, a, ot, e1, e2, _⟩ => ?_)
    subst e1
    exact nI_pos (by omega) c1
  refine r_il G (pn := 5) rfl rfl rfl ?_
  refine r_ra G (pn := 6) rfl rfl rfl ?_
  refine r_get G (pn := 9) rfl rfl (by first | assumption | (repeat (first | assumption | exact am_eq (by first | assumption | exact am_eq (by assumption) | exact am_ne (by first | decide | omega) (by assumption)) | refine am_ne (by first | decide | omega) ?_))) rfl ?_
  rw [hm5]
  refine r_if2 G (pn := 12) rfl rfl (fun c9 => ?_) (fun c9 => ?_)
  · refine no (fun ⟨q, a, ot, e1, e2, _⟩ => ?_)
    subst e1
    have := (nI_leI (by omega) (by omega)).mp c9
    omega
  obtain ⟨q, hq, er⟩ := in_nat (by omega) c1 c9
  refine r_ra G (pn := 13) rfl rfl rfl ?_
  refine r_il G (pn := 14) rfl rfl rfl ?_
  refine r_inv2 G (pn := 17) rfl rfl hM (Nat.le_of_ble_eq_true rfl) (Nat.le_of_ble_eq_true rfl) (Nat.le_of_ble_eq_true rfl) (sp_44 (by omega) hM (fun z => ?_) (fun y1 y2 => ?_))
  · rw [m3] at z
    show am_Go (am_KA lx e) (am_fetch cd_56) Q 17 [some (.ref 81), some (.int r), some (.int s), some (.int t), none, none, none] [.int 0] h 0 0
    refine r_if1 G (pn := 20) rfl rfl (fun c17 => ?_) (fun c17 => ?_)
    rotate_left
    · exact absurd rfl c17
    refine no (fun ⟨q, a, ot, _, _, e1, e2, _⟩ => ?_)
    subst e1
    rcases z with z | z
    · exact nI_pos (by omega) z
    · have := (nI_leI (by omega) (by omega)).mp z
      omega
  rw [m3] at y2
  obtain ⟨a, ha, es⟩ := in_nat (by omega) y1 y2
  show am_Go (am_KA lx e) (am_fetch cd_56) Q 17 [some (.ref 81), some (.int r), some (.int s), some (.int t), none, none, none] [.int 1] h 0 0
  refine r_if1 G (pn := 20) rfl rfl (fun c17 => ?_) (fun c17 => ?_)
  · exact absurd c17 (by decide)
  have go : ∀ ot : Option Nat, t = otI ot → (∀ b, ot = some b → b < n0) → am_Go (am_KA lx e) (am_fetch cd_56) Q 35 [some (.ref 81), some (.int r), some (.int s), some (.int t), none, none, none] [] h 0 0 := by
    intro ot et hot
    subst er
    subst es
    subst et
    obtain ⟨f6, h96⟩ := hS 96 (by decide)
    obtain ⟨f7, h97⟩ := hS 97 (by decide)
    obtain ⟨f8, h98⟩ := hS 98 (by decide)
    obtain ⟨fc, h101⟩ := hS 101 (by decide)
    have px := px_ok (ow := ot.map W) hcap (hW a ha) (fun v hv => by
      cases ot with
      | none => cases hv
      | some b => cases hv; exact ⟨_, hW b (hot b rfl)⟩)
    refine r_ra G (pn := 36) rfl rfl rfl ?_
    refine r_il G (pn := 37) rfl rfl rfl ?_
    refine r_il G (pn := 38) rfl rfl rfl ?_
    refine r_inv3 G (pn := 41) rfl rfl hM (Nat.le_of_ble_eq_true rfl) (Nat.le_of_ble_eq_true rfl) (Nat.le_of_ble_eq_true rfl) (sp_52 (by omega) hcap hM h96 h97 h98 hT hn0 hW ha hot (fun h1 x hf1 hI1 => ?_))
    have hos : (ot.map W).isSome = ot.isSome := by cases ot <;> rfl
    have hyes := fun h' x => hyes q a ot h' x rfl hq rfl ha rfl hot
    generalize pxN (W a) (ot.map W) = N at px hI1 hyes
    generalize pxL (W a) (ot.map W) = L at px hyes
    generalize hpC : pxC (W a) (ot.map W) = Cc at hI1 hyes
    generalize hpO : pxO (W a) (ot.map W) = Oo at hI1 hyes
    generalize pxM (W a) (ot.map W) = Mo at px hI1
    have cc4 : ∀ i, Cc i < 4 := fun i => by rw [← hpC]; exact pxC_lt i
    have oo4 : ∀ i j, Oo i j < 4 := fun i j => by rw [← hpO]; exact (pxO_lt i j).1
    obtain ⟨x1, x2, x3, x4, x5, x6⟩ := px
    rw [hos] at x4 x5
    have x6' : ∀ i, i < N → Mo i = if ot.isSome = true ∧ L ≤ i then 1 else 0 := fun i _ => by rw [x6 i, hos]
    have nm : ∀ i, i ≠ 81 → i ≠ 96 → i ≠ 97 → i ≠ 98 → ¬ mmP i := fun i a b c d z => by rcases z with z | z | z | z <;> omega
    have hR1 := (hR q hq).fr hf1 (fun i h1 h2 => nm i (by omega) (by omega) (by omega) (by omega))
    obtain ⟨pP, ⟨fp, k84, gp⟩, -⟩ := id hR1
    obtain ⟨hM1, m24, ⟨g6, k96, -⟩, ⟨g7, k97, -⟩, ⟨g8, k98, -⟩⟩ := id hI1
    have k101 : h1[101]? = some (aI 3 fc) := hf1.at (nm _ (by omega) (by omega) (by omega) (by omega)) h101
    show am_Go (am_KA lx e) (am_fetch cd_56) Q 41 [some (.ref 81), some (.int (nI q)), some (.int (nI a)), some (.int (otI ot)), none, none, none] [] h1 0 0
    refine r_ic G (pn := 42) rfl rfl  ?_
    refine r_is G (pn := 44) rfl rfl (Nat.le_of_ble_eq_true rfl) ?_
    refine r_ra G (pn := 45) rfl rfl rfl ?_
    refine r_il G (pn := 46) rfl rfl rfl ?_
    refine r_inv2 G (pn := 49) rfl rfl hM1 (Nat.le_of_ble_eq_true rfl) (Nat.le_of_ble_eq_true rfl) (Nat.le_of_ble_eq_true rfl) (sp_54 (P := P q) (by omega) hM1 m24 x2 (by omega) (by omega) k84 gp ?_)
    have pw := pw_le x2
    have pwP : N ^ P q ≤ 1000 := by
      rcases pP with z | z
      · rw [z]; exact pw.2.2.1
      · rw [z]; exact pw.2.2.2
    show am_Go (am_KA lx e) (am_fetch cd_56) Q 49 [some (.ref 81), some (.int (nI q)), some (.int (nI a)), some (.int (otI ot)), some (.int 0), none, none] [.int (nI (N ^ P q))] h1 0 0
    refine r_is G (pn := 51) rfl rfl (Nat.le_of_ble_eq_true rfl) ?_
    refine r_ic G (pn := 52) rfl rfl  ?_
    refine r_is G (pn := 54) rfl rfl (Nat.le_of_ble_eq_true rfl) ?_
    have lp : ∀ (k i : Nat) (h' : am_H) (fc : Nat → Int32), i + k = N ^ P q → (∀ p, p ≠ 101 → h'[p]? = h1[p]?) → h'[101]? = some (aI 3 fc) → am_Go (am_KA lx e) (am_fetch cd_56) Q 54 [some (.ref 81), some (.int (nI q)), some (.int (nI a)), some (.int (otI ot)), some (.int (nI (cn (mtB (P q) N L (C q) (Bf q) Cc Oo) id 0 i))), some (.int (nI (N ^ P q))), some (.int (nI i))] [] h' 0 0 := by
      intro k
      induction k with
      | zero =>
        intro i h' fc hi hh hc
        obtain rfl : i = N ^ P q := by omega
        refine r_il G (pn := 56) rfl rfl rfl ?_
        refine r_il G (pn := 58) rfl rfl rfl ?_
        refine r_if2 G (pn := 61) rfl rfl (fun c58 => ?_) (fun c58 => ?_)
        rotate_left
        · exact absurd (Int32.le_refl _) c58
        have fr' : am_fr (fun p => p = 101) h1 h' := fun p hp => hh p hp
        have frr : am_fr m2P h h' := (hf1.wk (fun p hp => by unfold m2P; unfold mmP at hp; omega)).tr (fr'.wk (fun p hp => by unfold m2P; omega))
        refine r_il G (pn := 103) rfl rfl rfl ?_
        refine r_iret G rfl rfl (hyes h' x frr (hS.fr frr (fun p hp hz => ?_)) ((hh 81 (by omega)).trans hM1))
        rcases hp with z | z | z | z | z
        · subst z; exact absurd rfl hz
        · subst z; exact ⟨_, (hh _ (by omega)).trans k96⟩
        · subst z; exact ⟨_, (hh _ (by omega)).trans k97⟩
        · subst z; exact ⟨_, (hh _ (by omega)).trans k98⟩
        · subst z; exact ⟨_, hc⟩
      | succ k ih =>
        intro i h' fc hi hh hc
        have hM2 : h'[81]? = some (mO (upd m 24 x)) := (hh 81 (by omega)).trans hM1
        refine r_il G (pn := 56) rfl rfl rfl ?_
        refine r_il G (pn := 58) rfl rfl rfl ?_
        refine r_if2 G (pn := 61) rfl rfl (fun c58 => ?_) (fun c58 => ?_)
        · exact absurd ((nI_leI (by omega) (by omega)).mp c58) (by omega)
        refine r_ra G (pn := 62) rfl rfl rfl ?_
        refine r_il G (pn := 64) rfl rfl rfl ?_
        refine r_inv2 G (pn := 67) rfl rfl hM2 (Nat.le_of_ble_eq_true rfl) (Nat.le_of_ble_eq_true rfl) (Nat.le_of_ble_eq_true rfl) (sp_55 (by omega) hM2 m24 x1 x2 (by omega) hc (fun f hf => ?_))
        have hh2 : ∀ p, p ≠ 101 → (h'.set 101 (aI 3 f))[p]? = h1[p]? := fun p hp => by rw [List.getElem?_set_ne (fun z => hp z.symm)]; exact hh p hp
        have fr2 : am_fr (fun p => p = 101) h1 (h'.set 101 (aI 3 f)) := fun p hp => hh2 p hp
        have hI2 : MmI (h'.set 101 (aI 3 f)) (upd m 24 x) N Cc Mo Oo := by
          obtain ⟨b1, b2, ⟨f1, b3, b4⟩, ⟨f2, b5, b6⟩, ⟨f3, b7, b8⟩⟩ := id hI1
          exact ⟨(hh2 _ (by omega)).trans b1, b2, ⟨f1, (hh2 _ (by omega)).trans b3, b4⟩, ⟨f2, (hh2 _ (by omega)).trans b5, b6⟩, ⟨f3, (hh2 _ (by omega)).trans b7, b8⟩⟩
        have hR2 := hR1.fr fr2 (fun i h1 h2 => by omega)
        have c101 : (h'.set 101 (aI 3 f))[101]? = some (aI 3 f) := am_eq hc
        generalize (h'.set 101 (aI 3 f) : am_H) = h3 at hh2 hI2 hR2 c101
        show am_Go (am_KA lx e) (am_fetch cd_56) Q 67 [some (.ref 81), some (.int (nI q)), some (.int (nI a)), some (.int (otI ot)), some (.int (nI (cn (mtB (P q) N L (C q) (Bf q) Cc Oo) id 0 i))), some (.int (nI (N ^ P q))), some (.int (nI i))] [] h3 0 0
        have nxt : ∀ y : Nat, (y = cn (mtB (P q) N L (C q) (Bf q) Cc Oo) id 0 (i + 1)) → am_Go (am_KA lx e) (am_fetch cd_56) Q 93 [some (.ref 81), some (.int (nI q)), some (.int (nI a)), some (.int (otI ot)), some (.int (nI (cn (mtB (P q) N L (C q) (Bf q) Cc Oo) id 0 i))), some (.int (nI (N ^ P q))), some (.int (nI i))] [.int (nI y)] h3 0 0 := by
          intro y hy
          refine r_is G (pn := 95) rfl rfl (Nat.le_of_ble_eq_true rfl) ?_
          refine r_inc G (pn := 98) rfl rfl rfl (Nat.le_of_ble_eq_true rfl) ?_
          refine r_goto G rfl ?_
          rw [nI_1, hy]
          exact ih (i + 1) h3 f (by omega) hh2 c101
        have cnS : cn (mtB (P q) N L (C q) (Bf q) Cc Oo) id 0 (i + 1) = cn (mtB (P q) N L (C q) (Bf q) Cc Oo) id 0 i + (if mtB (P q) N L (C q) (Bf q) Cc Oo i = true then 1 else 0) := by
          show cn _ id 0 i + (if mtB (P q) N L (C q) (Bf q) Cc Oo (0 + i) = true then 1 else 0) = _
          rw [Nat.zero_add]
        have m78 : am_Go (am_KA lx e) (am_fetch cd_56) Q 78 [some (.ref 81), some (.int (nI q)), some (.int (nI a)), some (.int (otI ot)), some (.int (nI (cn (mtB (P q) N L (C q) (Bf q) Cc Oo) id 0 i))), some (.int (nI (N ^ P q))), some (.int (nI i))] [.int (if ot.isSome then 2 else 1), .int (nI q), .ref 81] h3 0 0 := by
          refine r_inv3 G (pn := 81) rfl rfl hI2.1 (Nat.le_of_ble_eq_true rfl) (Nat.le_of_ble_eq_true rfl) (Nat.le_of_ble_eq_true rfl) (sp_53 (c := tup N i) (lb := L) (by omega) hI2 x2 (fun i _ => cc4 i) (fun i j _ _ => oo4 i j) hR2 (by omega) ⟨f, c101, fun j hj => hf j (by omega)⟩ (fun j hj => Nat.mod_lt _ (by omega)) x6' x4 x5 (fun hnm => ?_) (fun hm => ?_))
          · show am_Go (am_KA lx e) (am_fetch cd_56) Q 81 [some (.ref 81), some (.int (nI q)), some (.int (nI a)), some (.int (otI ot)), some (.int (nI (cn (mtB (P q) N L (C q) (Bf q) Cc Oo) id 0 i))), some (.int (nI (N ^ P q))), some (.int (nI i))] [.int 0] h3 0 0
            refine r_if1 G (pn := 84) rfl rfl (fun c81 => ?_) (fun c81 => ?_)
            rotate_left
            · exact absurd rfl c81
            refine r_il G (pn := 93) rfl rfl rfl ?_
            exact nxt _ (by rw [cnS, if_neg (fun z => hnm (mtB_iff.mp z))]; rfl)
          · show am_Go (am_KA lx e) (am_fetch cd_56) Q 81 [some (.ref 81), some (.int (nI q)), some (.int (nI a)), some (.int (otI ot)), some (.int (nI (cn (mtB (P q) N L (C q) (Bf q) Cc Oo) id 0 i))), some (.int (nI (N ^ P q))), some (.int (nI i))] [.int 1] h3 0 0
            refine r_if1 G (pn := 84) rfl rfl (fun c81 => ?_) (fun c81 => ?_)
            · exact absurd c81 (by decide)
            refine r_il G (pn := 86) rfl rfl rfl ?_
            refine r_ic G (pn := 87) rfl rfl  ?_
            refine r_ib G (pn := 88) rfl rfl  ?_
            refine r_goto G rfl ?_
            rw [nI_1]
            exact nxt _ (by rw [cnS, if_pos (mtB_iff.mpr hm)])
        refine r_ra G (pn := 68) rfl rfl rfl ?_
        refine r_il G (pn := 69) rfl rfl rfl ?_
        refine r_il G (pn := 70) rfl rfl rfl ?_
        cases ot with
        | none =>
          refine r_if1 G (pn := 73) rfl rfl (fun c70 => ?_) (fun c70 => ?_)
          · exact absurd c70 (by decide)
          refine r_ic G (pn := 74) rfl rfl  ?_
          refine r_goto G rfl ?_
          exact m78
        | some b =>
          have := hot b rfl
          refine r_if1 G (pn := 73) rfl rfl (fun c70 => ?_) (fun c70 => ?_)
          rotate_left
          · exact absurd ((nI_leI (a := 0) (b := b) (by omega) (by omega)).mpr (Nat.zero_le _)) c70
          refine r_ic G (pn := 78) rfl rfl  ?_
          exact m78
    exact lp (N ^ P q) 0 h1 fc (by omega) (fun p _ => rfl) k101
  refine r_il G (pn := 21) rfl rfl rfl ?_
  refine r_ic G (pn := 22) rfl rfl  ?_
  refine r_if2 G (pn := 25) rfl rfl (fun c22 => ?_) (fun c22 => ?_)
  · exact go none c22 (fun b hb => by cases hb)
  refine r_ra G (pn := 26) rfl rfl rfl ?_
  refine r_il G (pn := 27) rfl rfl rfl ?_
  refine r_inv2 G (pn := 30) rfl rfl hM (Nat.le_of_ble_eq_true rfl) (Nat.le_of_ble_eq_true rfl) (Nat.le_of_ble_eq_true rfl) (sp_44 (by omega) hM (fun z => ?_) (fun x1 x2 => ?_))
  · rw [m3] at z
    show am_Go (am_KA lx e) (am_fetch cd_56) Q 30 [some (.ref 81), some (.int r), some (.int s), some (.int t), none, none, none] [.int 0] h 0 0
    refine r_if1 G (pn := 33) rfl rfl (fun c30 => ?_) (fun c30 => ?_)
    · exact absurd rfl c30
    refine no (fun ⟨q, a, ot, _, _, _, _, e1, e2⟩ => ?_)
    have := otneg ot e2 (by rw [← e1]; exact c22)
    rw [← e1] at this
    rcases z with z | z
    · exact this.1 z
    · exact this.2 z
  · rw [m3] at x2
    obtain ⟨b, hb, et⟩ := in_nat (by omega) x1 x2
    show am_Go (am_KA lx e) (am_fetch cd_56) Q 30 [some (.ref 81), some (.int r), some (.int s), some (.int t), none, none, none] [.int 1] h 0 0
    refine r_if1 G (pn := 33) rfl rfl (fun c30 => ?_) (fun c30 => ?_)
    rotate_left
    · exact absurd (by decide) c30
    exact go (some b) et (fun b' hb' => by cases hb'; exact hb)
end
