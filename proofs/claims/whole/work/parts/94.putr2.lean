theorem nu_s {n0 : Nat} : NuOk n0 (fun i => i + 1) := ⟨fun _ _ => rfl, fun i j (e : i + 1 = j + 1) => by omega, fun i (e : i + 1 = 0) => by omega⟩
def prP (i : Nat) : Prop := i = 39 ∨ i = 40 ∨ i = 66 ∨ i = 67 ∨ i = 68
section
variable {lx : am_Lx} {d : Nat} {h : am_H} {Q : am_Q}
set_option maxRecDepth 20000 in
theorem sp_23 (hd : 4 ≤ d) {n0 u rn s k jc : Nat} {ot : Option Nat} {cap rc : Int32} {W U w b : Nat → Nat} {Ws : Nat → Prop} {A : Nat → Nat → (Nat → Nat) → Prop} {R : Nat → Nat → Nat} {fw : Nat → Int64} {fv : Nat → Int32} (h0 : h[0]? = some (sO cap rc)) (hT : TbC h u U) (hu : u ≤ 12) (hR : Run n0 W (fun i => i + 1) Ws A u U rn R) (hD : DrI h 66 rn R) (h61 : h[61]? = some (pO jc k)) (h62 : h[62]? = some (aL 3 fw)) (hw : ∀ i, i < k → fw i = lN (w i) ∧ KR (w i) (b i)) (hk : k ≤ 3) (h68 : h[68]? = some (aI 5 fv)) (hs : s < n0) (ht : ∀ t, ot = some t → t < n0)
    (hyes : ∀ h' u' U' rn' R' A', Run n0 W (fun i => i + 1) (fun v => Ws v ∨ ∃ i, i < k ∧ w i = v) A' u' U' rn' R' → (∀ a' b' y', A' a' b' y' ↔ (A a' b' y' ∨ (¬ Same W (evA s ot) (evB s ot) (padY k w) ∧ a' = evA s ot ∧ b' = evB s ot ∧ y' = padY k w))) → u' ≤ 12 → am_fr prP h h' → TbC h' u' U' → DrI h' 66 rn' R' → (∃ f, h'[68]? = some (aI 5 f)) → Q (some (.int 1)) h')
    (hno1 : ∀ h' U' Ws' i, Run n0 W (fun i => i + 1) Ws' A 12 U' rn R → (∀ v, Ws' v → Ws v ∨ ∃ i, i < k ∧ w i = v) → i < k → (∀ j, j < 12 → U' j ≠ w i) → am_fr prP h h' → TbC h' 12 U' → DrI h' 66 rn R → (∃ f, h'[68]? = some (aI 5 f)) → Q (some (.int 0)) h')
    (hno2 : ∀ h' u' U' t, Run n0 W (fun i => i + 1) (fun v => Ws v ∨ ∃ i, i < k ∧ w i = v) A u' U' rn R → u' ≤ 12 → rn = 40 → ¬ Same W (evA s ot) (evB s ot) (padY k w) → den (fun i => i + 1) u' U' t (evA s ot) (evB s ot) (padY k w) → (∀ i, i < rn → ¬ eq5 (R i) t) → am_fr prP h h' → TbC h' u' U' → DrI h' 66 rn R → (∃ f, h'[68]? = some (aI 5 f)) → Q (some (.int 0)) h') : am_KA lx d 23 [.ref 0, .int (nI s), .int (otI ot)] h Q := by
  have hn0u := hR.1
  obtain ⟨ab1, ab2⟩ := ev_le hs ht
  obtain ⟨e, rfl⟩ : ∃ e, d = e + 1 := ⟨d - 1, by omega⟩
  have G : am_GK (am_KA lx e) cd_23 := ⟨am_KA_m lx e, cm_23⟩
  refine am_KA_in (by decide) (Nat.le_of_ble_eq_true rfl) ?_
  show am_Go (am_KA lx e) (am_fetch cd_23) Q 0 [some (.ref 0), some (.int (nI s)), some (.int (otI ot)), none, none] [] h 0 0
  have emin : (if otI ot < nI s then otI ot else nI s) = nI (evA s ot) - 1 := by
    cases ot with
    | none =>
      have : (-1 : Int32) < nI s := Int32.lt_of_lt_of_le (by decide : (-1 : Int32) < 0) ((nI_leI (a := 0) (by omega) (by omega)).mpr (Nat.zero_le _))
      show (if (-1 : Int32) < nI s then -1 else nI s) = nI 0 - 1
      rw [if_pos this]
      rfl
    | some t =>
      have := ht t rfl
      show (if nI t < nI s then nI t else nI s) = nI (min s t + 1) - 1
      rw [am_mnI (by omega) (by omega), nI_pred]
  have emax : (if nI s < otI ot then otI ot else nI s) = nI (evB s ot) - 1 := by
    cases ot with
    | none =>
      have : ¬ nI s < (-1 : Int32) := fun z => nI_pos (n := s) (by omega) (Int32.lt_trans z (by decide))
      show (if nI s < (-1 : Int32) then -1 else nI s) = nI (s + 1) - 1
      rw [if_neg this, nI_pred]
    | some t =>
      have := ht t rfl
      show (if nI s < nI t then nI t else nI s) = nI (max s t + 1) - 1
      rw [am_mxI (by omega) (by omega), nI_pred]
  refine r_ra G (pn := 1) rfl rfl rfl ?_
  refine r_get G (pn := 4) rfl rfl (by first | assumption | (repeat (first | assumption | exact am_eq (by first | assumption | exact am_eq (by assumption) | exact am_ne (by first | decide | omega) (by assumption)) | refine am_ne (by first | decide | omega) ?_))) rfl ?_
  refine r_ic G (pn := 5) rfl rfl  ?_
  refine r_il G (pn := 6) rfl rfl rfl ?_
  refine r_il G (pn := 7) rfl rfl rfl ?_
  refine r_min G (pn := 10) rfl rfl (Nat.le_of_ble_eq_true rfl) ?_
  rw [emin]
  refine r_iastN G (pn := 11) rfl rfl (j := 0) h68 (by omega) (by omega) ?_
  refine r_ra G (pn := 12) rfl rfl rfl ?_
  refine r_get G (pn := 15) rfl rfl (am_ne (by decide) h0) rfl ?_
  refine r_ic G (pn := 16) rfl rfl  ?_
  refine r_il G (pn := 17) rfl rfl rfl ?_
  refine r_il G (pn := 18) rfl rfl rfl ?_
  refine r_max G (pn := 21) rfl rfl (Nat.le_of_ble_eq_true rfl) ?_
  rw [emax]
  refine r_iastN G (pn := 22) rfl rfl (j := 1) (am_eq h68) (by omega) (by omega) ?_
  refine r_ic G (pn := 23) rfl rfl  ?_
  refine r_is G (pn := 24) rfl rfl (Nat.le_of_ble_eq_true rfl) ?_
  rw [List.set_set]
  -- after the numbers are there
  have tail : ∀ (h' : am_H) (u' : Nat) (U' : Nat → Nat) (f : Nat → Int32) (x : Nat → Nat) (y3 y4 : Option Value), am_fr prP h h' → TbC h' u' U' → u' ≤ 12 → Run n0 W (fun i => i + 1) (fun v => Ws v ∨ ∃ i, i < k ∧ w i = v) A u' U' rn R → DrI h' 66 rn R → h'[68]? = some (aI 5 f) → f 0 = nI (evA s ot) - 1 → f 1 = nI (evB s ot) - 1 → (∀ i, i < 3 → f (2 + i) = nI (x i) - 1 ∧ x i < 16) → (∀ i, i < 3 → (i < k ∧ ∃ j, j < u' ∧ U' j = w i ∧ x i = j + 1) ∨ (k ≤ i ∧ x i = 0)) → am_Go (am_KA lx e) (am_fetch cd_23) Q 85 [some (.ref 0), some (.int (nI s)), some (.int (otI ot)), y3, y4] [] h' 0 0 := by
    intro h' u' U' f x y3 y4 hf hT' hu' hR' hD' k68 f0 f1 f2 hx
    have n0' : ¬ prP 0 := fun z => by unfold prP at z; omega
    have k0 : h'[0]? = some (sO cap rc) := hf.at n0' h0
    obtain ⟨q1, q2, q3, -⟩ := id hR'
    refine r_ra G (pn := 86) rfl rfl rfl ?_
    refine r_get G (pn := 89) rfl rfl (by first | assumption | (repeat (first | assumption | exact am_eq (by first | assumption | exact am_eq (by assumption) | exact am_ne (by first | decide | omega) (by assumption)) | refine am_ne (by first | decide | omega) ?_))) rfl ?_
    refine r_ic G (pn := 90) rfl rfl  ?_
    refine r_ic G (pn := 91) rfl rfl  ?_
    refine r_ins3 G (pn := 94) rfl rfl (Nat.le_of_ble_eq_true rfl) (Nat.le_of_ble_eq_true rfl) (Nat.le_of_ble_eq_true rfl) (sp_25 (a := 2) (n := 5) (by omega) k68 (by omega) (by omega) (fun g s1 s2 s3 => ?_))
    let v : Nat → Nat := fun q => if q = 0 then evA s ot else if q = 1 then evB s ot else x (q - 2)
    have hv : ∀ q, q < 5 → f q = nI (v q) - 1 ∧ v q < 16 := by
      intro q hq
      rcases (show q = 0 ∨ q = 1 ∨ (2 ≤ q ∧ q < 5) by omega) with z | z | z
      · subst z; exact ⟨f0, show evA s ot < 16 by omega⟩
      · subst z; exact ⟨f1, show evB s ot < 16 by omega⟩
      · have := f2 (q - 2) (by omega)
        rw [show 2 + (q - 2) = q by omega] at this
        show f q = nI (if q = 0 then evA s ot else if q = 1 then evB s ot else x (q - 2)) - 1 ∧ (if q = 0 then evA s ot else if q = 1 then evB s ot else x (q - 2)) < 16
        rw [if_neg (by omega), if_neg (by omega)]
        exact this
    obtain ⟨t, t1, t2, t3, t4, t5, t6⟩ := srt_view (M := 16) (by omega) hv s1 s2 s3
    have t2 : t 0 = evA s ot := t2
    have t3 : t 1 = evB s ot := t3
    have hden : den (fun i => i + 1) u' U' t (evA s ot) (evB s ot) (padY k w) := by
      refine ⟨t2, t3, t4, t5, fun i hi => ?_, fun P => ?_⟩
      · rcases hx i hi with ⟨z, j, j1, j2, -⟩ | ⟨z, -⟩
        · exact Or.inr ⟨j, j1, by unfold padY; rw [if_pos z, j2]⟩
        · exact Or.inl (by unfold padY; rw [if_neg (by omega)])
      · rw [t6 P]
        refine (cn_shift (f := v) (b := 2) (a := 0)).symm.trans (cn_congr (fun i hi => ?_))
        rw [Nat.zero_add]
        show (if 2 + i = 0 then evA s ot else if 2 + i = 1 then evB s ot else x (2 + i - 2)) = num (fun i => i + 1) u' U' (padY k w i)
        rw [if_neg (by omega), if_neg (by omega), Nat.add_sub_cancel_left]
        unfold padY
        rcases hx i hi with ⟨z, j, j1, j2, j3⟩ | ⟨z, z2⟩
        · rw [if_pos z, j3, ← j2, num_s q3 j1]
        · rw [if_neg (by omega), num_0, z2]
    have k39 := hT'.1
    obtain ⟨wd', k40, tw'⟩ := hT'.2
    obtain ⟨d66, d40, fr, d67, dr⟩ := id hD'
    have hT2 : TbC (h'.set 68 (aI 5 g)) u' U' := ⟨am_ne (by decide) k39, wd', am_ne (by decide) k40, tw'⟩
    have hD2 : DrI (h'.set 68 (aI 5 g)) 66 rn R := ⟨am_ne (by decide) d66, d40, fr, am_ne (by decide) d67, dr⟩
    have hf2 : am_fr prP h (h'.set 68 (aI 5 g)) := hf.put (by unfold prP; omega)
    have l0 : (h'.set 68 (aI 5 g))[0]? = some (sO cap rc) := am_ne (by decide) k0
    have l68 : (h'.set 68 (aI 5 g))[68]? = some (aI 5 g) := am_eq k68
    have ht16 : ∀ q, q < 5 → t q < 16 := fun q hq => (t1 q hq).2
    generalize (h'.set 68 (aI 5 g) : am_H) = h2 at hT2 hD2 hf2 l0 l68
    have sm_ := same_iff nu_s q1 q2 q3 ab1 ab2 hden
    have fin : ∀ sa : Nat, sa ≤ 1 → Eqv (sa = 1) (Same W (evA s ot) (evB s ot) (padY k w)) → am_Go (am_KA lx e) (am_fetch cd_23) Q 139 [some (.ref 0), some (.int (nI s)), some (.int (otI ot)), y3, y4] [.int (nI sa)] h2 0 0 := by
      intro sa hsa esa
      refine r_is G (pn := 140) rfl rfl (Nat.le_of_ble_eq_true rfl) ?_
      refine r_il G (pn := 141) rfl rfl rfl ?_
      refine r_if1 G (pn := 144) rfl rfl (fun c141 => ?_) (fun c141 => ?_)
      · have sa1 : sa = 1 := by
          have : sa ≠ 0 := fun z => c141 (by rw [z]; rfl)
          omega
        have hS := esa.mp sa1
        refine r_ic G (pn := 162) rfl rfl  ?_
        refine r_goto G rfl ?_
        refine r_iret G rfl (by decide) (hyes h2 u' U' rn R A hR' (fun a' b' y' => ⟨Or.inl, fun z => z.elim id (fun y => absurd hS y.1)⟩) hu' hf2 hT2 hD2 ⟨g, l68⟩)
      have sa0 : sa = 0 := (nI_eq (b := 0) (by omega) (by omega)).mp (Classical.byContradiction c141)
      have hS : ¬ Same W (evA s ot) (evB s ot) (padY k w) := fun z => by have := esa.mpr z; omega
      refine r_ra G (pn := 145) rfl rfl rfl ?_
      refine r_get G (pn := 148) rfl rfl (by first | assumption | (repeat (first | assumption | exact am_eq (by first | assumption | exact am_eq (by assumption) | exact am_ne (by first | decide | omega) (by assumption)) | refine am_ne (by first | decide | omega) ?_))) rfl ?_
      refine r_ra G (pn := 149) rfl rfl rfl ?_
      refine r_get G (pn := 152) rfl rfl (by first | assumption | (repeat (first | assumption | exact am_eq (by first | assumption | exact am_eq (by assumption) | exact am_ne (by first | decide | omega) (by assumption)) | refine am_ne (by first | decide | omega) ?_))) rfl ?_
      refine r_ins1 G (pn := 155) rfl rfl (Nat.le_of_ble_eq_true rfl) (Nat.le_of_ble_eq_true rfl) (Nat.le_of_ble_eq_true rfl) (sp_99 (t := t) (by omega) l68 (fun q hq => (t1 q hq).1) ht16 ?_)
      obtain ⟨m66, m40, mr, m67, mrr⟩ := id hD2
      show am_Go (am_KA lx e) (am_fetch cd_23) Q 155 [some (.ref 0), some (.int (nI s)), some (.int (otI ot)), some (.int (nI sa)), y4] [.int (nI (e16 t 5)), .ref 66] h2 0 0
      have tb := e16_b ht16
      have rb : ∀ i, i < rn → e16 (R i) 5 < 1048576 := fun i hi => e16_b (mrr i hi).2
      refine r_inv2 G (pn := 158) rfl rfl m66 (Nat.le_of_ble_eq_true rfl) (Nat.le_of_ble_eq_true rfl) (Nat.le_of_ble_eq_true rfl) (sp_102 (by omega) m66 m67 m40 (fun ⟨i, hi, ei⟩ => ?_) (fun hne hfull => ?_) (fun p f' hne hlt hp p1 p2 p3 p4 p5 => ?_))
      · show am_Go (am_KA lx e) (am_fetch cd_23) Q 158 [some (.ref 0), some (.int (nI s)), some (.int (otI ot)), some (.int (nI sa)), y4] [.int 1] h2 0 0
        refine r_if1 G (pn := 161) rfl rfl (fun c158 => ?_) (fun c158 => ?_)
        · exact absurd c158 (by decide)
        have e5 : eq5 (R i) t := (e16_inj (mrr i hi).2 ht16).mp ((nI_eq (by have := rb i hi; omega) (by omega)).mp ((mrr i hi).1.symm.trans ei))
        refine r_ic G (pn := 162) rfl rfl  ?_
        refine r_goto G rfl ?_
        refine r_iret G rfl (by decide) (hyes h2 u' U' rn R _ (hR'.there hden hi e5) (fun a' b' y' => ⟨fun z => z.elim Or.inl (fun y => Or.inr ⟨hS, y⟩), fun z => z.elim Or.inl (fun y => Or.inr y.2)⟩) hu' hf2 hT2 hD2 ⟨g, l68⟩)
      · show am_Go (am_KA lx e) (am_fetch cd_23) Q 158 [some (.ref 0), some (.int (nI s)), some (.int (otI ot)), some (.int (nI sa)), y4] [.int 0] h2 0 0
        refine r_if1 G (pn := 161) rfl rfl (fun c158 => ?_) (fun c158 => ?_)
        rotate_left
        · exact absurd rfl c158
        refine r_ic G (pn := 166) rfl rfl  ?_
        refine r_iret G rfl (by decide) (hno2 h2 u' U' t hR' hu' hfull hS hden (fun i hi e5 => hne i hi (by rw [(mrr i hi).1, (e16_inj (mrr i hi).2 ht16).mpr e5])) hf2 hT2 hD2 ⟨g, l68⟩)
      · have ne5 : ∀ i, i < rn → ¬ eq5 (R i) t := fun i hi e5 => hne i hi (by rw [(mrr i hi).1, (e16_inj (mrr i hi).2 ht16).mpr e5])
        let R' : Nat → Nat → Nat := fun i => if i < p then R i else if i = p then t else R (i - 1)
        have r1 : ∀ i, i < p → R' i = R i := fun i hi => if_pos hi
        have r2 : R' p = t := by show (if p < p then R p else if p = p then t else R (p - 1)) = t; rw [if_neg (by omega), if_pos rfl]
        have r3 : ∀ i, p < i → i ≤ rn → R' i = R (i - 1) := fun i h1 h2 => by show (if i < p then R i else if i = p then t else R (i - 1)) = _; rw [if_neg (by omega), if_neg (by omega)]
        show am_Go (am_KA lx e) (am_fetch cd_23) Q 158 [some (.ref 0), some (.int (nI s)), some (.int (otI ot)), some (.int (nI sa)), y4] [.int 1] ((h2.set 67 (aI 40 f')).set 66 (lO 66 (nI (rn + 1)))) 0 0
        refine r_if1 G (pn := 161) rfl rfl (fun c158 => ?_) (fun c158 => ?_)
        · exact absurd c158 (by decide)
        refine r_ic G (pn := 162) rfl rfl  ?_
        refine r_goto G rfl ?_
        refine r_iret G rfl (by decide) (hyes _ u' U' (rn + 1) R' _ (hR'.row hden ne5 hp r1 r2 r3) (fun a' b' y' => ⟨fun z => z.elim Or.inl (fun y => Or.inr ⟨hS, y⟩), fun z => z.elim Or.inl (fun y => Or.inr y.2)⟩) hu' ((hf2.put (by unfold prP; omega)).put (by unfold prP; omega)) ?_ ⟨am_eq (am_ne (by decide) m66), by omega, f', am_ne (by decide) (am_eq m67), fun i hi => ?_⟩ ⟨g, am_ne (by decide) (am_ne (by decide) l68)⟩)
        · obtain ⟨x1, wd9, x2, x3⟩ := id hT2
          exact ⟨am_ne (by decide) (am_ne (by decide) x1), wd9, am_ne (by decide) (am_ne (by decide) x2), x3⟩
        · rcases Nat.lt_trichotomy i p with z | z | z
          · rw [r1 i z, p1 i z]; exact mrr i (by omega)
          · rw [z, r2, p2]; exact ⟨rfl, ht16⟩
          · rw [r3 i z (by omega), p3 i z (by omega)]; exact mrr (i - 1) (by omega)
    show am_Go (am_KA lx e) (am_fetch cd_23) Q 94 [some (.ref 0), some (.int (nI s)), some (.int (otI ot)), y3, y4] [] h2 0 0
    refine r_ra G (pn := 95) rfl rfl rfl ?_
    refine r_get G (pn := 98) rfl rfl (by first | assumption | (repeat (first | assumption | exact am_eq (by first | assumption | exact am_eq (by assumption) | exact am_ne (by first | decide | omega) (by assumption)) | refine am_ne (by first | decide | omega) ?_))) rfl ?_
    refine r_ic G (pn := 99) rfl rfl  ?_
    refine r_ialdN G (pn := 100) rfl rfl (j := 2) l68 (by omega) (by omega) ?_
    refine r_ic G (pn := 101) rfl rfl  ?_
    have b2 := ht16 2 (by omega); have b3 := ht16 3 (by omega); have b4 := ht16 4 (by omega); have b0 := ht16 0 (by omega); have b1 := ht16 1 (by omega)
    rw [(t1 2 (by omega)).1]
    refine r_if2 G (pn := 104) rfl rfl (fun c101 => ?_) (fun c101 => ?_)
    · refine r_ic G (pn := 139) rfl rfl  ?_
      refine fin 0 (by omega) ⟨fun z => absurd z (by omega), fun z => ?_⟩
      have := (sm_.mp z).1
      rw [this] at c101
      exact absurd rfl c101
    have z2 : t 2 = 0 := (nI_m1 (by omega)).mp (Classical.byContradiction c101)
    refine r_ra G (pn := 105) rfl rfl rfl ?_
    refine r_get G (pn := 108) rfl rfl (by first | assumption | (repeat (first | assumption | exact am_eq (by first | assumption | exact am_eq (by assumption) | exact am_ne (by first | decide | omega) (by assumption)) | refine am_ne (by first | decide | omega) ?_))) rfl ?_
    refine r_ic G (pn := 109) rfl rfl  ?_
    refine r_ialdN G (pn := 110) rfl rfl (j := 3) l68 (by omega) (by omega) ?_
    refine r_ra G (pn := 111) rfl rfl rfl ?_
    refine r_get G (pn := 114) rfl rfl (by first | assumption | (repeat (first | assumption | exact am_eq (by first | assumption | exact am_eq (by assumption) | exact am_ne (by first | decide | omega) (by assumption)) | refine am_ne (by first | decide | omega) ?_))) rfl ?_
    refine r_ic G (pn := 115) rfl rfl  ?_
    refine r_ialdN G (pn := 116) rfl rfl (j := 0) l68 (by omega) (by omega) ?_
    rw [(t1 3 (by omega)).1, (t1 0 (by omega)).1]
    refine r_if2 G (pn := 119) rfl rfl (fun c116 => ?_) (fun c116 => ?_)
    · refine r_ic G (pn := 139) rfl rfl  ?_
      refine fin 0 (by omega) ⟨fun z => absurd z (by omega), fun z => ?_⟩
      have := (sm_.mp z).2.1
      rw [this, t2] at c116
      exact absurd rfl c116
    have z3 : t 3 = evA s ot := by
      have := (m1_eq (by omega) (by omega)).mp (Classical.byContradiction c116)
      rw [this, t2]
    refine r_ra G (pn := 120) rfl rfl rfl ?_
    refine r_get G (pn := 123) rfl rfl (by first | assumption | (repeat (first | assumption | exact am_eq (by first | assumption | exact am_eq (by assumption) | exact am_ne (by first | decide | omega) (by assumption)) | refine am_ne (by first | decide | omega) ?_))) rfl ?_
    refine r_ic G (pn := 124) rfl rfl  ?_
    refine r_ialdN G (pn := 125) rfl rfl (j := 4) l68 (by omega) (by omega) ?_
    refine r_ra G (pn := 126) rfl rfl rfl ?_
    refine r_get G (pn := 129) rfl rfl (by first | assumption | (repeat (first | assumption | exact am_eq (by first | assumption | exact am_eq (by assumption) | exact am_ne (by first | decide | omega) (by assumption)) | refine am_ne (by first | decide | omega) ?_))) rfl ?_
    refine r_ic G (pn := 130) rfl rfl  ?_
    refine r_ialdN G (pn := 131) rfl rfl (j := 1) l68 (by omega) (by omega) ?_
    rw [(t1 4 (by omega)).1, (t1 1 (by omega)).1]
    refine r_if2 G (pn := 134) rfl rfl (fun c131 => ?_) (fun c131 => ?_)
    · refine r_ic G (pn := 139) rfl rfl  ?_
      refine fin 0 (by omega) ⟨fun z => absurd z (by omega), fun z => ?_⟩
      have := (sm_.mp z).2.2
      rw [this, t3] at c131
      exact absurd rfl c131
    have z4 : t 4 = evB s ot := by
      have := (m1_eq (by omega) (by omega)).mp (Classical.byContradiction c131)
      rw [this, t3]
    refine r_ic G (pn := 135) rfl rfl  ?_
    refine r_goto G rfl ?_
    exact fin 1 (by omega) ⟨fun _ => sm_.mpr ⟨z2, z3, z4⟩, fun _ => rfl⟩
  -- the loop over the three places
  have lp : ∀ (z i : Nat) (h' : am_H) (u' : Nat) (U' : Nat → Nat) (f : Nat → Int32) (x : Nat → Nat) (y4 : Option Value), i + z = 3 → am_fr prP h h' → TbC h' u' U' → u' ≤ 12 → Run n0 W (fun i => i + 1) (fun v => Ws v ∨ ∃ q, q < k ∧ q < i ∧ w q = v) A u' U' rn R → DrI h' 66 rn R → h'[68]? = some (aI 5 f) → f 0 = nI (evA s ot) - 1 → f 1 = nI (evB s ot) - 1 → (∀ q, q < i → f (2 + q) = nI (x q) - 1 ∧ x q < 16) → (∀ q, q < i → (q < k ∧ ∃ j, j < u' ∧ U' j = w q ∧ x q = j + 1) ∨ (k ≤ q ∧ x q = 0)) → am_Go (am_KA lx e) (am_fetch cd_23) Q 24 [some (.ref 0), some (.int (nI s)), some (.int (otI ot)), some (.int (nI i)), y4] [] h' 0 0 := by
    intro z
    induction z with
    | zero =>
      intro i h' u' U' f x y4 hi hf hT' hu' hR' hD' k68 f0 f1 f2 hx
      obtain rfl : i = 3 := by omega
      refine r_il G (pn := 25) rfl rfl rfl ?_
      refine r_ic G (pn := 26) rfl rfl  ?_
      refine r_if2 G (pn := 29) rfl rfl (fun c26 => ?_) (fun c26 => ?_)
      rotate_left
      · exact absurd (by decide) c26
      refine tail h' u' U' f x _ _ hf hT' hu' (hR'.same (fun v => ?_) (fun a b y hA => ⟨y, hA, yq.rf⟩) (fun a b y hA => ⟨y, hA, yq.rf⟩)) hD' k68 f0 f1 f2 hx
      constructor
      · rintro (q | ⟨q, q1, q2⟩)
        · exact Or.inl q
        · exact Or.inr ⟨q, q1, by omega, q2⟩
      · rintro (q | ⟨q, q1, -, q2⟩)
        · exact Or.inl q
        · exact Or.inr ⟨q, q1, q2⟩
    | succ z ih =>
      intro i h' u' U' f x y4 hi hf hT' hu' hR' hD' k68 f0 f1 f2 hx
      have np : ∀ i, i < 39 ∨ (40 < i ∧ i < 66) ∨ 68 < i → ¬ prP i := fun i hi z => by unfold prP at z; omega
      have k0 : h'[0]? = some (sO cap rc) := hf.at (np _ (by omega)) h0
      have k61 : h'[61]? = some (pO jc k) := hf.at (np _ (by omega)) h61
      have k62 : h'[62]? = some (aL 3 fw) := hf.at (np _ (by omega)) h62
      -- writing a number
      have wr : ∀ (h2 : am_H) (u2 : Nat) (U2 : Nat → Nat) (xi : Nat), am_fr prP h h2 → TbC h2 u2 U2 → u2 ≤ 12 → u' ≤ u2 → (∀ j, j < u' → U2 j = U' j) → Run n0 W (fun i => i + 1) (fun v => Ws v ∨ ∃ q, q < k ∧ q < i + 1 ∧ w q = v) A u2 U2 rn R → DrI h2 66 rn R → h2[68]? = some (aI 5 f) → xi < 16 → ((i < k ∧ ∃ j, j < u2 ∧ U2 j = w i ∧ xi = j + 1) ∨ (k ≤ i ∧ xi = 0)) → am_Go (am_KA lx e) (am_fetch cd_23) Q 69 [some (.ref 0), some (.int (nI s)), some (.int (otI ot)), some (.int (nI i)), some (.int (nI xi - 1))] [] h2 0 0 := by
        intro h2 u2 U2 xi hf2 hT2 hu2 huu ag hR2 hD2 l68 hxi hxx
        have l0 : h2[0]? = some (sO cap rc) := hf2.at (np _ (by omega)) h0
        refine r_ra G (pn := 70) rfl rfl rfl ?_
        refine r_get G (pn := 73) rfl rfl (by first | assumption | (repeat (first | assumption | exact am_eq (by first | assumption | exact am_eq (by assumption) | exact am_ne (by first | decide | omega) (by assumption)) | refine am_ne (by first | decide | omega) ?_))) rfl ?_
        refine r_ic G (pn := 74) rfl rfl  ?_
        refine r_il G (pn := 75) rfl rfl rfl ?_
        refine r_ib G (pn := 76) rfl rfl  ?_
        rw [show (2 : Int32) + nI i = nI (2 + i) from nI_add 2 i]
        refine r_il G (pn := 78) rfl rfl rfl ?_
        refine r_iastN G (pn := 79) rfl rfl l68 (by omega) (by omega) ?_
        refine r_inc G (pn := 82) rfl rfl rfl (Nat.le_of_ble_eq_true rfl) ?_
        refine r_goto G rfl ?_
        rw [nI_1]
        obtain ⟨x1, wd9, x2, x3⟩ := id hT2
        obtain ⟨d66, d40, fr, d67, dr⟩ := id hD2
        refine ih (i + 1) _ u2 U2 _ (uN x i xi) _ (by omega) (hf2.put (by unfold prP; omega)) ⟨am_ne (by decide) x1, wd9, am_ne (by decide) x2, x3⟩ hu2 hR2 ⟨am_ne (by decide) d66, d40, fr, am_ne (by decide) d67, dr⟩ (am_eq l68) (by rw [pk_un (by omega)]; exact f0) (by rw [pk_un (by omega)]; exact f1) (fun q hq => ?_) (fun q hq => ?_)
        · by_cases y : q = i
          · rw [y, pk_us, uN_s]; exact ⟨rfl, hxi⟩
          · rw [pk_un (by omega), uN_n y]; exact f2 q (by omega)
        · by_cases y : q = i
          · rw [y, uN_s]; exact hxx
          · rw [uN_n y]
            rcases hx q (by omega) with ⟨z1, j, j1, j2, j3⟩ | z1
            · exact Or.inl ⟨z1, j, by omega, by rw [ag j j1]; exact j2, j3⟩
            · exact Or.inr z1
      refine r_il G (pn := 25) rfl rfl rfl ?_
      refine r_ic G (pn := 26) rfl rfl  ?_
      refine r_if2 G (pn := 29) rfl rfl (fun c26 => ?_) (fun c26 => ?_)
      · exact absurd ((nI_leI (a := 3) (by omega) (by omega)).mp c26) (by omega)
      refine r_ic G (pn := 30) rfl rfl  ?_
      refine r_is G (pn := 32) rfl rfl (Nat.le_of_ble_eq_true rfl) ?_
      refine r_il G (pn := 33) rfl rfl rfl ?_
      refine r_ra G (pn := 34) rfl rfl rfl ?_
      refine r_get G (pn := 37) rfl rfl (by first | assumption | (repeat (first | assumption | exact am_eq (by first | assumption | exact am_eq (by assumption) | exact am_ne (by first | decide | omega) (by assumption)) | refine am_ne (by first | decide | omega) ?_))) rfl ?_
      refine r_get G (pn := 40) rfl rfl (by first | assumption | (repeat (first | assumption | exact am_eq (by first | assumption | exact am_eq (by assumption) | exact am_ne (by first | decide | omega) (by assumption)) | refine am_ne (by first | decide | omega) ?_))) rfl ?_
      refine r_if2 G (pn := 43) rfl rfl (fun c40 => ?_) (fun c40 => ?_)
      · have hge := (nI_leI (by omega) (by omega)).mp c40
        refine wr h' u' U' 0 hf hT' hu' (by omega) (fun _ _ => rfl) (hR'.same (fun v => ?_) (fun a b y hA => ⟨y, hA, yq.rf⟩) (fun a b y hA => ⟨y, hA, yq.rf⟩)) hD' k68 (by omega) (Or.inr ⟨hge, rfl⟩)
        constructor
        · rintro (q | ⟨q, q1, q2, q3⟩)
          · exact Or.inl q
          · exact Or.inr ⟨q, q1, by omega, q3⟩
        · rintro (q | ⟨q, q1, q2, q3⟩)
          · exact Or.inl q
          · exact Or.inr ⟨q, q1, by omega, q3⟩
      have hlt : i < k := Nat.not_le.mp (fun y => c40 ((nI_leI (by omega) (by omega)).mpr y))
      obtain ⟨w1, w2⟩ := hw i hlt
      have wlt := w2.lt
      obtain ⟨t39, wd9, t40, tw⟩ := id hT'
      obtain ⟨d66, d40, fr, d67, dr⟩ := id hD'
      refine r_ra G (pn := 44) rfl rfl rfl ?_
      refine r_get G (pn := 47) rfl rfl (by first | assumption | (repeat (first | assumption | exact am_eq (by first | assumption | exact am_eq (by assumption) | exact am_ne (by first | decide | omega) (by assumption)) | refine am_ne (by first | decide | omega) ?_))) rfl ?_
      refine r_ra G (pn := 48) rfl rfl rfl ?_
      refine r_get G (pn := 51) rfl rfl (by first | assumption | (repeat (first | assumption | exact am_eq (by first | assumption | exact am_eq (by assumption) | exact am_ne (by first | decide | omega) (by assumption)) | refine am_ne (by first | decide | omega) ?_))) rfl ?_
      refine r_get G (pn := 54) rfl rfl (by first | assumption | (repeat (first | assumption | exact am_eq (by first | assumption | exact am_eq (by assumption) | exact am_ne (by first | decide | omega) (by assumption)) | refine am_ne (by first | decide | omega) ?_))) rfl ?_
      refine r_il G (pn := 55) rfl rfl rfl ?_
      refine r_laldN G (pn := 56) rfl rfl k62 (by omega) (by omega) ?_
      rw [w1]
      have sameW : ∀ j, j < u' → U' j = w i → Run n0 W (fun i => i + 1) (fun v => Ws v ∨ ∃ q, q < k ∧ q < i + 1 ∧ w q = v) A u' U' rn R := by
        intro j hj ej
        refine hR'.same (fun v => ?_) (fun a b y hA => ⟨y, hA, yq.rf⟩) (fun a b y hA => ⟨y, hA, yq.rf⟩)
        constructor
        · rintro (q | ⟨q, q1, q2, q3⟩)
          · exact Or.inl q
          · by_cases y : q = i
            · obtain ⟨-, -, -, r4, -⟩ := id hR'
              have := r4 j hj
              rw [y] at q3
              rw [ej, q3] at this
              exact this
            · exact Or.inr ⟨q, q1, by omega, q3⟩
        · rintro (q | ⟨q, q1, q2, q3⟩)
          · exact Or.inl q
          · exact Or.inr ⟨q, q1, by omega, q3⟩
      refine r_inv2 G (pn := 59) rfl rfl t39 (Nat.le_of_ble_eq_true rfl) (Nat.le_of_ble_eq_true rfl) (Nat.le_of_ble_eq_true rfl) (sp_122 (by omega) t39 t40 hu' (fun j hj hwj _ => ?_) (fun hno hfull => ?_) (fun hno hlt12 => ?_))
      · have ej : U' j = w i := (lN_iff (by have := (tw j hj).2; omega) (by omega)).mp ((tw j hj).1.symm.trans hwj)
        show am_Go (am_KA lx e) (am_fetch cd_23) Q 59 [some (.ref 0), some (.int (nI s)), some (.int (otI ot)), some (.int (nI i)), some (.int (-1))] [.int (nI j)] h' 0 0
        refine r_is G (pn := 61) rfl rfl (Nat.le_of_ble_eq_true rfl) ?_
        refine r_il G (pn := 63) rfl rfl rfl ?_
        refine r_ic G (pn := 64) rfl rfl  ?_
        refine r_if2 G (pn := 67) rfl rfl (fun c64 => ?_) (fun c64 => ?_)
        rotate_left
        · exact absurd (show nI j = -1 from Classical.byContradiction c64) (fun z => by have := nI_pos (n := j) (by omega); rw [z] at this; exact absurd (by decide) this)
        have := wr h' u' U' (j + 1) hf hT' hu' (by omega) (fun _ _ => rfl) (sameW j hj ej) hD' k68 (by omega) (Or.inl ⟨hlt, j, hj, ej, rfl⟩)
        rw [nI_pred] at this
        exact this
      · show am_Go (am_KA lx e) (am_fetch cd_23) Q 59 [some (.ref 0), some (.int (nI s)), some (.int (otI ot)), some (.int (nI i)), some (.int (-1))] [.int (-1)] h' 0 0
        refine r_is G (pn := 61) rfl rfl (Nat.le_of_ble_eq_true rfl) ?_
        refine r_il G (pn := 63) rfl rfl rfl ?_
        refine r_ic G (pn := 64) rfl rfl  ?_
        refine r_if2 G (pn := 67) rfl rfl (fun c64 => ?_) (fun c64 => ?_)
        · exact absurd rfl c64
        refine r_ic G (pn := 68) rfl rfl  ?_
        subst hfull
        refine r_iret G rfl (by decide) (hno1 h' U' _ i hR' (fun v hv => ?_) hlt (fun j hj ej => hno j hj (by rw [(tw j hj).1, ej])) hf hT' hD' ⟨f, k68⟩)
        rcases hv with q | ⟨q, q1, -, q3⟩
        · exact Or.inl q
        · exact Or.inr ⟨q, q1, q3⟩
      · have hne : ∀ j, j < u' → U' j ≠ w i := fun j hj ej => hno j hj (by rw [(tw j hj).1, ej])
        have hT2 : TbC ((h'.set 40 (aL 12 (vp_updL wd9 u' (lN (w i))))).set 39 (tO (nI (u' + 1)))) (u' + 1) (uN U' u' (w i)) := by
          refine ⟨am_eq (am_ne (by decide) t39), _, am_ne (by decide) (am_eq t40), fun j hj => ?_⟩
          by_cases y : j = u'
          · rw [y, pk_uLs', uN_s]; exact ⟨rfl, wlt.1⟩
          · rw [pk_uLn y, uN_n y]; exact tw j (by omega)
        have hR2 := (hR'.word hne).same (Ws' := fun v => Ws v ∨ ∃ q, q < k ∧ q < i + 1 ∧ w q = v) (fun v => by
          constructor
          · rintro (q | ⟨q, q1, q2, q3⟩)
            · exact Or.inl (Or.inl q)
            · by_cases y : q = i
              · rw [y] at q3; exact Or.inr q3.symm
              · exact Or.inl (Or.inr ⟨q, q1, by omega, q3⟩)
          · rintro ((q | ⟨q, q1, q2, q3⟩) | q)
            · exact Or.inl q
            · exact Or.inr ⟨q, q1, by omega, q3⟩
            · exact Or.inr ⟨i, hlt, by omega, q.symm⟩) (fun a b y hA => ⟨y, hA, yq.rf⟩) (fun a b y hA => ⟨y, hA, yq.rf⟩)
        have hf2 : am_fr prP h ((h'.set 40 (aL 12 (vp_updL wd9 u' (lN (w i))))).set 39 (tO (nI (u' + 1)))) := (hf.put (by unfold prP; omega)).put (by unfold prP; omega)
        show am_Go (am_KA lx e) (am_fetch cd_23) Q 59 [some (.ref 0), some (.int (nI s)), some (.int (otI ot)), some (.int (nI i)), some (.int (-1))] [.int (nI u')] ((h'.set 40 (aL 12 (vp_updL wd9 u' (lN (w i))))).set 39 (tO (nI (u' + 1)))) 0 0
        refine r_is G (pn := 61) rfl rfl (Nat.le_of_ble_eq_true rfl) ?_
        refine r_il G (pn := 63) rfl rfl rfl ?_
        refine r_ic G (pn := 64) rfl rfl  ?_
        refine r_if2 G (pn := 67) rfl rfl (fun c64 => ?_) (fun c64 => ?_)
        rotate_left
        · exact absurd (show nI u' = -1 from Classical.byContradiction c64) (fun z => by have := nI_pos (n := u') (by omega); rw [z] at this; exact absurd (by decide) this)
        have := wr _ (u' + 1) (uN U' u' (w i)) (u' + 1) hf2 hT2 (by omega) (by omega) (fun j hj => uN_n (by omega)) hR2 ⟨am_ne (by decide) (am_ne (by decide) d66), d40, fr, am_ne (by decide) (am_ne (by decide) d67), dr⟩ (am_ne (by decide) (am_ne (by decide) k68)) (by omega) (Or.inl ⟨hlt, u', by omega, uN_s, rfl⟩)
        rw [nI_pred] at this
        exact this
  obtain ⟨t39, wd9, t40, tw⟩ := id hT
  obtain ⟨d66, d40, fr, d67, dr⟩ := id hD
  refine lp 3 0 _ u U _ (fun _ => 0) _ (by omega) (am_fr.rf.put (by unfold prP; omega)) ⟨am_ne (by decide) t39, wd9, am_ne (by decide) t40, tw⟩ hu (hR.same (fun v => ⟨fun q => q.elim id (fun ⟨_, _, z, _⟩ => absurd z (Nat.not_lt_zero _)), Or.inl⟩) (fun a b y hA => ⟨y, hA, yq.rf⟩) (fun a b y hA => ⟨y, hA, yq.rf⟩)) ⟨am_ne (by decide) d66, d40, fr, am_ne (by decide) d67, dr⟩ (am_eq h68) rfl rfl (fun q hq => absurd hq (Nat.not_lt_zero q)) (fun q hq => absurd hq (Nat.not_lt_zero q))
end
