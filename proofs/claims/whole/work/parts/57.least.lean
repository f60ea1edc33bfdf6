theorem sp_83 {lx : am_Lx} {d : Nat} {h : am_H} {Q : am_Q} (hd : 1 ≤ d) {g N n A NA cnt : Nat} {cd at_ : Nat → Nat} {od : Nat → Nat → Nat} {fs fa : Nat → Int32} (hI : GrI g N h n cd od) (hN : N ≤ 24) (hnN : n ≤ N) (hgr : g + 3 + N < 35 ∨ 38 < g) (h35 : h[35]? = some kO) (h36 : h[36]? = some (aI 5 fs)) (hA : h[A]? = some (aI NA fa)) (hA36 : A ≠ 36) (hNA : NA ≤ 24) (hcA : cnt ≤ NA) (hc5 : cnt ≤ 5) (hat : ∀ q, q < cnt → fa q = nI (at_ q) ∧ at_ q < n) (hcd : ∀ i, i < n → cd i < 4)
    (hq : ∀ (f : Nat → Int32) (srt : Nat → Nat), (∀ q, q < cnt → f q = nI (srt q) ∧ srt q < n) → (∀ p q, p < q → q < cnt → cd (srt p) ≤ cd (srt q)) → (∀ P : Nat → Bool, cn P srt 0 cnt = cn P at_ 0 cnt) → Q none (h.set 36 (aI 5 f))) : am_KA lx d 83 [.ref 35, .ref g, .ref A, .int (nI cnt)] h Q := by
  have hI1 : ∀ f, (h.set 36 (aI 5 f))[g]? = some (.inr (2, [.ref (g + 1), .ref (g + 2), .ref (g + 3 + N), .int (nI n)])) := fun f => am_ne (by omega) hI.1
  obtain ⟨f2, h2, g2⟩ := hI.2.1
  have hI2 : ∀ f, (h.set 36 (aI 5 f))[g + 1]? = some (aI N f2) := fun f => am_ne (by omega) h2
  have k35 : ∀ f, (h.set 36 (aI 5 f))[35]? = some kO := fun f => am_ne (by decide) h35
  have k36 : ∀ f, (h.set 36 (aI 5 f))[36]? = some (aI 5 f) := fun f => am_eq h36
  have kA : ∀ f, (h.set 36 (aI 5 f))[A]? = some (aI NA fa) := fun f => am_ne (Ne.symm hA36) hA
  obtain ⟨e, rfl⟩ : ∃ e, d = e + 1 := ⟨d - 1, by omega⟩
  have G : am_GK (am_KA lx e) cd_83 := ⟨am_KA_m lx e, cm_83⟩
  refine am_KA_in (by decide) (Nat.le_of_ble_eq_true rfl) ?_
  show am_Go (am_KA lx e) (am_fetch cd_83) Q 0 [some (.ref 35), some (.ref g), some (.ref A), some (.int (nI cnt)), none, none, none] [] h 0 0
  refine r_ic G (pn := 1) rfl rfl  ?_
  refine r_is G (pn := 3) rfl rfl (Nat.le_of_ble_eq_true rfl) ?_
  have lp : ∀ (k i : Nat) (f : Nat → Int32) (u : Nat → Nat) (d5 d6 : Option Value), i + k = cnt → (∀ q, q < i → f q = nI (u q)) → (∀ p q, p < q → q < i → cd (u p) ≤ cd (u q)) → (∀ P : Nat → Bool, cn P u 0 cnt = cn P at_ 0 cnt) → (∀ q, i ≤ q → u q = at_ q) → (∀ q, q < cnt → u q < n) → am_Go (am_KA lx e) (am_fetch cd_83) Q 3 [some (.ref 35), some (.ref g), some (.ref A), some (.int (nI cnt)), some (.int (nI i)), d5, d6] [] (h.set 36 (aI 5 f)) 0 0 := by
    intro k
    induction k with
    | zero =>
      intro i f u d5 d6 hi s1 s2 s3 s4 s5
      obtain rfl : i = cnt := by omega
      refine r_il G (pn := 5) rfl rfl rfl ?_
      refine r_il G (pn := 6) rfl rfl rfl ?_
      refine r_if2 G (pn := 9) rfl rfl (fun c6 => ?_) (fun c6 => ?_)
      · refine r_vret G rfl (hq f u (fun q hq => ⟨s1 q hq, s5 q hq⟩) s2 s3)
      · exact absurd (Int32.le_refl _) c6
    | succ k ih =>
      intro i f u d5 d6 hi s1 s2 s3 s4 s5
      obtain ⟨e1, e2⟩ := hat i (by omega)
      refine r_il G (pn := 5) rfl rfl rfl ?_
      refine r_il G (pn := 6) rfl rfl rfl ?_
      refine r_if2 G (pn := 9) rfl rfl (fun c6 => ?_) (fun c6 => ?_)
      · exact absurd ((nI_leI (by omega) (by omega)).mp c6) (by omega)
      · refine r_ra G (pn := 10) rfl rfl rfl ?_
        refine r_get G (pn := 13) rfl rfl (hI1 f) rfl ?_
        refine r_ra G (pn := 14) rfl rfl rfl ?_
        refine r_il G (pn := 16) rfl rfl rfl ?_
        refine r_ialdN G (pn := 17) rfl rfl (kA f) (by omega) (by omega) ?_
        rw [e1]
        refine r_ialdN G (pn := 18) rfl rfl (hI2 f) (by omega) (by omega) ?_
        rw [g2 _ e2]
        refine r_is G (pn := 20) rfl rfl (Nat.le_of_ble_eq_true rfl) ?_
        refine r_il G (pn := 22) rfl rfl rfl ?_
        refine r_is G (pn := 24) rfl rfl (Nat.le_of_ble_eq_true rfl) ?_
        have inn : ∀ (t : Nat) (f3 : Nat → Int32) (v : Nat → Nat), InsI (fun x y => cd x ≤ cd y) at_ v 0 i t cnt (at_ i) → (∀ q, q < cnt → v q < n) → (∀ q, q ≤ i → q ≠ t → f3 q = nI (v q)) → am_Go (am_KA lx e) (am_fetch cd_83) Q 24 [some (.ref 35), some (.ref g), some (.ref A), some (.int (nI cnt)), some (.int (nI i)), some (.int (nI (cd (at_ i)))), some (.int (nI t))] [] (h.set 36 (aI 5 f3)) 0 0 := by
          have fin : ∀ (t : Nat) (f3 : Nat → Int32) (v : Nat → Nat), InsI (fun x y => cd x ≤ cd y) at_ v 0 i t cnt (at_ i) → (∀ q, q < cnt → v q < n) → (∀ q, q ≤ i → q ≠ t → f3 q = nI (v q)) → (t = 0 ∨ ∃ k, t = k + 1 ∧ 0 ≤ k ∧ cd (v k) ≤ cd (at_ i)) → am_Go (am_KA lx e) (am_fetch cd_83) Q 70 [some (.ref 35), some (.ref g), some (.ref A), some (.int (nI cnt)), some (.int (nI i)), some (.int (nI (cd (at_ i)))), some (.int (nI t))] [] (h.set 36 (aI 5 f3)) 0 0 := by
            intro t f3 v hI9 hv hf3 hx
            have hsrt := ins_exit (le := fun x y : Nat => cd x ≤ cd y) (fun x y z q1 q2 => Nat.le_trans q1 q2) hI9 hx
            obtain ⟨i1, i2, i3, i4, i5, i6, i7, i8⟩ := hI9
            refine r_ra G (pn := 71) rfl rfl rfl ?_
            refine r_get G (pn := 74) rfl rfl (k35 f3) rfl ?_
            refine r_il G (pn := 76) rfl rfl rfl ?_
            refine r_ra G (pn := 77) rfl rfl rfl ?_
            refine r_il G (pn := 79) rfl rfl rfl ?_
            refine r_ialdN G (pn := 80) rfl rfl (kA f3) (by omega) (by omega) ?_
            rw [e1]
            refine r_iastN G (pn := 81) rfl rfl (k36 f3) (by omega) (by omega) ?_
            rw [List.set_set]
            refine r_inc G (pn := 84) rfl rfl rfl (Nat.le_of_ble_eq_true rfl) ?_
            refine r_goto G rfl ?_
            rw [nI_1]
            refine ih (i + 1) _ v _ _ (by omega) (fun q hq => ?_) (fun p q pq qi => hsrt p q (by omega) pq (by omega)) (fun P => by simpa using i5 P) (fun q hq => i8 q (by omega)) hv
            by_cases z : q = t
            · rw [z, pk_us, i4]
            · rw [pk_un z]
              exact hf3 q (by omega) z
          intro t
          induction t with
          | zero =>
            intro f3 v hI9 hv hf3
            refine r_il G (pn := 26) rfl rfl rfl ?_
            refine r_if1 G (pn := 29) rfl rfl (fun c26 => ?_) (fun c26 => ?_)
            · exact fin 0 f3 v hI9 hv hf3 (Or.inl rfl)
            · exact absurd (by decide) c26
          | succ t iht =>
            intro f3 v hI9 hv hf3
            have ht5 : t + 1 ≤ i := hI9.2.1
            refine r_il G (pn := 26) rfl rfl rfl ?_
            refine r_if1 G (pn := 29) rfl rfl (fun c26 => ?_) (fun c26 => ?_)
            · exact absurd c26 (nI_nle (by omega) (by omega))
            · refine r_ra G (pn := 30) rfl rfl rfl ?_
              refine r_get G (pn := 33) rfl rfl (hI1 f3) rfl ?_
              refine r_ra G (pn := 34) rfl rfl rfl ?_
              refine r_get G (pn := 37) rfl rfl (k35 f3) rfl ?_
              refine r_il G (pn := 39) rfl rfl rfl ?_
              refine r_ic G (pn := 40) rfl rfl  ?_
              refine r_ib G (pn := 41) rfl rfl  ?_
              rw [nI_pred]
              refine r_ialdN G (pn := 42) rfl rfl (k36 f3) (by omega) (by omega) ?_
              rw [hf3 t (by omega) (by omega)]
              have hvt := hv t (by omega)
              refine r_ialdN G (pn := 43) rfl rfl (hI2 f3) (by omega) (by omega) ?_
              rw [g2 _ hvt]
              have q1 := hcd _ hvt
              have q2 := hcd _ e2
              refine r_il G (pn := 45) rfl rfl rfl ?_
              refine r_if2 G (pn := 48) rfl rfl (fun c45 => ?_) (fun c45 => ?_)
              · exact fin (t + 1) f3 v hI9 hv hf3 (Or.inr ⟨t, rfl, Nat.zero_le _, (nI_leI (by omega) (by omega)).mp c45⟩)
              · refine r_ra G (pn := 49) rfl rfl rfl ?_
                refine r_get G (pn := 52) rfl rfl (k35 f3) rfl ?_
                refine r_il G (pn := 54) rfl rfl rfl ?_
                refine r_ra G (pn := 55) rfl rfl rfl ?_
                refine r_get G (pn := 58) rfl rfl (k35 f3) rfl ?_
                refine r_il G (pn := 60) rfl rfl rfl ?_
                refine r_ic G (pn := 61) rfl rfl  ?_
                refine r_ib G (pn := 62) rfl rfl  ?_
                rw [nI_pred]
                refine r_ialdN G (pn := 63) rfl rfl (k36 f3) (by omega) (by omega) ?_
                refine r_iastN G (pn := 64) rfl rfl (k36 f3) (by omega) (by omega) ?_
                rw [List.set_set, hf3 t (by omega) (by omega)]
                refine r_inc G (pn := 67) rfl rfl rfl (Nat.le_of_ble_eq_true rfl) ?_
                refine r_goto G rfl ?_
                rw [pk_m1]
                have hgt : cd (at_ i) ≤ cd (v t) := by
                  have : ¬ cd (v t) ≤ cd (at_ i) := fun q => c45 ((nI_leI (by omega) (by omega)).mpr q)
                  omega
                refine iht _ (fun j => if j = t then at_ i else if j = t + 1 then v t else v j) (ins_step hI9 (Nat.zero_le _) hgt ?_ ?_ ?_) (fun q hq => ?_) (fun q hq hn => ?_)
                · simp
                · simp
                · intro j j1 j2
                  simp [j1, j2]
                · split
                  · exact e2
                  · split
                    · exact hvt
                    · exact hv q hq
                · rw [if_neg hn]
                  by_cases z : q = t + 1
                  · rw [z, pk_us, if_pos rfl]
                  · rw [pk_un z, if_neg z]
                    exact hf3 q hq z
        refine inn i f u ⟨by omega, Nat.le_refl _, by omega, s4 i (Nat.le_refl _), fun P => by simpa using s3 P, fun p q ap pq qi np nq => s2 p q pq (by omega), fun q q1 q2 => absurd q1 (by omega), fun q hq => s4 q (by omega)⟩ s5 (fun q hq hn => s1 q (by omega))
  have := lp cnt 0 fs at_ none none (by omega) (fun q hq => absurd hq (by omega)) (fun p q _ hq => absurd hq (by omega)) (fun _ => rfl) (fun _ _ => rfl) (fun q hq => (hat q hq).2)
  rw [am_same h36] at this
  exact this
