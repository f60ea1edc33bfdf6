/-- what can be had from x in so many steps -/
def Fdr (n : Nat) (od : Nat → Nat → Nat) (x : Nat) : Nat → Nat → Prop
  | 0 => fun i => i = x
  | k + 1 => fun i => Fdr n od x k i ∨ ∃ j, j < n ∧ Fdr n od x k j ∧ od j i ≠ 0
noncomputable def inF (n : Nat) (od : Nat → Nat → Nat) (x k i : Nat) : Nat := @ite _ (Fdr n od x k i) (Classical.propDecidable _) 1 0
theorem inF_1 {n x k i : Nat} {od : Nat → Nat → Nat} (h : Fdr n od x k i) : inF n od x k i = 1 := by
  unfold inF
  rw [if_pos h]
theorem inF_0 {n x k i : Nat} {od : Nat → Nat → Nat} (h : ¬ Fdr n od x k i) : inF n od x k i = 0 := by
  unfold inF
  rw [if_neg h]
theorem sm_le2 {f g : Nat → Nat} : ∀ {k : Nat}, (∀ j, j < k → f j ≤ g j) → sm f k ≤ sm g k
  | 0, _ => Nat.le_refl _
  | k + 1, h => by
    show sm f k + f k ≤ sm g k + g k
    have := sm_le2 (f := f) (g := g) (k := k) (fun j hj => h j (by omega))
    have := h k (by omega)
    omega
theorem sm_lt {f g : Nat → Nat} {i : Nat} (hl : f i < g i) : ∀ {k : Nat}, i < k → (∀ j, j < k → f j ≤ g j) → sm f k + 1 ≤ sm g k
  | 0, h, _ => absurd h (by omega)
  | k + 1, h, hm => by
    show sm f k + f k + 1 ≤ sm g k + g k
    by_cases z : i = k
    · obtain rfl := z
      have := sm_le2 (f := f) (g := g) (k := i) (fun j hj => hm j (by omega))
      omega
    · have := sm_lt hl (k := k) (by omega) (fun j hj => hm j (by omega))
      have := hm k (by omega)
      omega
/-- after so many steps it is closed, or has so many members -/
theorem Fd_grow {n x : Nat} {od : Nat → Nat → Nat} (hx : x < n) : ∀ k, (∀ i j, i < n → j < n → Fdr n od x k i → od i j ≠ 0 → Fdr n od x k j) ∨ k + 1 ≤ sm (inF n od x k) n := by
  intro k
  induction k with
  | zero =>
    refine Or.inr ?_
    have := sm_lt (f := fun _ => 0) (g := inF n od x 0) (i := x) (by rw [inF_1 (show Fdr n od x 0 x from rfl)]; omega) hx (fun j hj => Nat.zero_le _)
    have z : sm (fun _ => 0) n = 0 := sm_nil (fun _ _ => rfl)
    omega
  | succ k ih =>
    by_cases c : ∀ i j, i < n → j < n → Fdr n od x k i → od i j ≠ 0 → Fdr n od x k j
    · refine Or.inl (fun i j hi hj fi hij => ?_)
      rcases fi with fi | ⟨q, q1, q2, q3⟩
      · exact Or.inl (c i j hi hj fi hij)
      · exact Or.inl (c i j hi hj (c q i q1 hi q2 q3) hij)
    · rcases ih with z | z
      · exact absurd z c
      · refine Or.inr ?_
        have : ∃ i j, i < n ∧ j < n ∧ Fdr n od x k i ∧ od i j ≠ 0 ∧ ¬ Fdr n od x k j := Classical.byContradiction (fun y => c (fun i j hi hj fi hij => Classical.byContradiction (fun w => y ⟨i, j, hi, hj, fi, hij, w⟩)))
        obtain ⟨i, j, hi, hj, fi, hij, nj⟩ := this
        have := sm_lt (f := inF n od x k) (g := inF n od x (k + 1)) (i := j) (by rw [inF_0 nj, inF_1 (show Fdr n od x (k + 1) j from Or.inr ⟨i, hi, fi, hij⟩)]; omega) hj (fun p hp => by
          by_cases w : Fdr n od x k p
          · rw [inF_1 w, inF_1 (show Fdr n od x (k + 1) p from Or.inl w)]
            exact Nat.le_refl _
          · rw [inF_0 w]
            exact Nat.zero_le _)
        omega
theorem Fd_all {n x i : Nat} {od : Nat → Nat → Nat} (hx : x < n) (h : Rch n od x i) : Fdr n od x n i := by
  have cl : ∀ i j, i < n → j < n → Fdr n od x n i → od i j ≠ 0 → Fdr n od x n j := by
    rcases Fd_grow (od := od) hx n with z | z
    · exact z
    · have : sm (inF n od x n) n ≤ n := by
        have := sm_le2 (f := inF n od x n) (g := fun _ => 1) (k := n) (fun j _ => by
          by_cases w : Fdr n od x n j
          · rw [inF_1 w]; exact Nat.le_refl _
          · rw [inF_0 w]; exact Nat.zero_le _)
        rw [sm_ones (fun _ _ => rfl)] at this
        exact this
      omega
  refine h (Fdr n od x n) cl ?_
  have : ∀ k, Fdr n od x k x := by
    intro k
    induction k with
    | zero => rfl
    | succ k ih => exact Or.inl ih
  exact this n
theorem Fd_rch {n x : Nat} {od : Nat → Nat → Nat} (hx : x < n) : ∀ k i, i < n → Fdr n od x k i → Rch n od x i := by
  intro k
  induction k with
  | zero => intro i hi f; rw [show i = x from f]; exact Rch.rf
  | succ k ih =>
    intro i hi f
    rcases f with f | ⟨j, hj, f, hji⟩
    · exact ih i hi f
    · exact (ih j hj f).st hj hi hji
/-- each atom bears the least atom that it hangs together with -/
def PtI (n : Nat) (od : Nat → Nat → Nat) (pt : Nat → Nat) : Prop := ∀ i, i < n → pt i < n ∧ Rch n od i (pt i) ∧ ∀ x, x < n → Rch n od x i → pt i ≤ x
def prtI (h : am_H) (n : Nat) (pt : Nat → Nat) : Prop := ∃ f, h[100]? = some (aI 10 f) ∧ ∀ i, i < n → f i = nI (pt i)
theorem prtI.fr {h h' : am_H} {n : Nat} {pt : Nat → Nat} {P : Nat → Prop} (hI : prtI h n pt) (hf : am_fr P h h') (hP : ¬ P 100) : prtI h' n pt := by
  obtain ⟨f, h1, h2⟩ := hI
  exact ⟨f, hf.at hP h1, h2⟩
section
variable {lx : am_Lx} {d : Nat} {h : am_H} {Q : am_Q} {m : Nat → Int32}
set_option maxRecDepth 20000 in
theorem sp_58 (hd : 1 ≤ d) {n : Nat} {od : Nat → Nat → Nat} (hM : h[81]? = some (mO m)) (m24 : m 24 = nI n) (hn : n ≤ 10) (hod : ∀ i j, i < n → j < n → od i j < 4 ∧ od i j = od j i) (hT : TnI h n od) (h100 : ∃ f, h[100]? = some (aI 10 f))
    (hq : ∀ h' pt, am_fr (fun i => i = 100) h h' → prtI h' n pt → PtI n od pt → Q none h') : am_KA lx d 58 [.ref 81] h Q := by
  obtain ⟨f0, h100⟩ := h100
  obtain ⟨ft, h99, gt⟩ := hT
  obtain ⟨e, rfl⟩ : ∃ e, d = e + 1 := ⟨d - 1, by omega⟩
  have G : am_GK (am_KA lx e) cd_58 := ⟨am_KA_m lx e, cm_58⟩
  refine am_KA_in (by decide) (Nat.le_of_ble_eq_true rfl) ?_
  show am_Go (am_KA lx e) (am_fetch cd_58) Q 0 [some (.ref 81), none, none, none] [] h 0 0
  refine r_ic G (pn := 1) rfl rfl  ?_
  refine r_is G (pn := 2) rfl rfl (Nat.le_of_ble_eq_true rfl) ?_
  have lp2 : ∀ (z k : Nat) (h' : am_H) (pt : Nat → Nat) (y2 y3 : Option Value), k + z = n → am_fr (fun i => i = 100) h h' → prtI h' n pt → (∀ i, i < n → pt i < n ∧ Rch n od i (pt i)) → (∀ x i, x < n → i < n → Fdr n od x k i → pt i ≤ x) → am_Go (am_KA lx e) (am_fetch cd_58) Q 25 [some (.ref 81), some (.int (nI k)), y2, y3] [] h' 0 0 := by
    intro z
    induction z with
    | zero =>
      intro k h' pt y2 y3 hk hf hp hA hB
      obtain rfl : k = n := by omega
      have kM := hf.at (by omega) hM
      refine r_il G (pn := 26) rfl rfl rfl ?_
      refine r_ra G (pn := 27) rfl rfl rfl ?_
      refine r_get G (pn := 30) rfl rfl (by first | assumption | (repeat (first | assumption | exact am_eq (by first | assumption | exact am_eq (by assumption) | exact am_ne (by first | decide | omega) (by assumption)) | refine am_ne (by first | decide | omega) ?_))) rfl ?_
      rw [m24]
      refine r_if2 G (pn := 33) rfl rfl (fun c30 => ?_) (fun c30 => ?_)
      rotate_left
      · exact absurd (Int32.le_refl _) c30
      exact r_vret G rfl (hq h' pt hf hp (fun i hi => ⟨(hA i hi).1, (hA i hi).2, fun x hx hr => hB x i hx hi (Fd_all hx hr)⟩))
    | succ z ih =>
      intro k h' pt y2 y3 hk hf hp hA hB
      have kM := hf.at (by omega) hM
      refine r_il G (pn := 26) rfl rfl rfl ?_
      refine r_ra G (pn := 27) rfl rfl rfl ?_
      refine r_get G (pn := 30) rfl rfl (by first | assumption | (repeat (first | assumption | exact am_eq (by first | assumption | exact am_eq (by assumption) | exact am_ne (by first | decide | omega) (by assumption)) | refine am_ne (by first | decide | omega) ?_))) rfl ?_
      rw [m24]
      refine r_if2 G (pn := 33) rfl rfl (fun c30 => ?_) (fun c30 => ?_)
      · exact absurd ((nI_leI (by omega) (by omega)).mp c30) (by omega)
      refine r_ic G (pn := 34) rfl rfl  ?_
      refine r_is G (pn := 35) rfl rfl (Nat.le_of_ble_eq_true rfl) ?_
      have lp3 : ∀ (z2 i : Nat) (h' : am_H) (pt : Nat → Nat) (y3 : Option Value), i + z2 = n → am_fr (fun i => i = 100) h h' → prtI h' n pt → (∀ i, i < n → pt i < n ∧ Rch n od i (pt i)) → (∀ x i, x < n → i < n → Fdr n od x k i → pt i ≤ x) → (∀ x i', x < n → i' < i → Fdr n od x (k + 1) i' → pt i' ≤ x) → am_Go (am_KA lx e) (am_fetch cd_58) Q 35 [some (.ref 81), some (.int (nI k)), some (.int (nI i)), y3] [] h' 0 0 := by
        intro z2
        induction z2 with
        | zero =>
          intro i h' pt y3 hi hf hp hA hB hC
          obtain rfl : i = n := by omega
          have kM := hf.at (by omega) hM
          refine r_il G (pn := 36) rfl rfl rfl ?_
          refine r_ra G (pn := 37) rfl rfl rfl ?_
          refine r_get G (pn := 40) rfl rfl (by first | assumption | (repeat (first | assumption | exact am_eq (by first | assumption | exact am_eq (by assumption) | exact am_ne (by first | decide | omega) (by assumption)) | refine am_ne (by first | decide | omega) ?_))) rfl ?_
          rw [m24]
          refine r_if2 G (pn := 43) rfl rfl (fun c40 => ?_) (fun c40 => ?_)
          rotate_left
          · exact absurd (Int32.le_refl _) c40
          refine r_inc G (pn := 118) rfl rfl rfl (Nat.le_of_ble_eq_true rfl) ?_
          refine r_goto G rfl ?_
          rw [nI_1]
          exact ih (k + 1) h' pt _ _ (by omega) hf hp hA (fun x i' hx hi' hh => hC x i' hx hi' hh)
        | succ z2 ih2 =>
          intro i h' pt y3 hi hf hp hA hB hC
          have kM := hf.at (by omega) hM
          refine r_il G (pn := 36) rfl rfl rfl ?_
          refine r_ra G (pn := 37) rfl rfl rfl ?_
          refine r_get G (pn := 40) rfl rfl (by first | assumption | (repeat (first | assumption | exact am_eq (by first | assumption | exact am_eq (by assumption) | exact am_ne (by first | decide | omega) (by assumption)) | refine am_ne (by first | decide | omega) ?_))) rfl ?_
          rw [m24]
          refine r_if2 G (pn := 43) rfl rfl (fun c40 => ?_) (fun c40 => ?_)
          · exact absurd ((nI_leI (by omega) (by omega)).mp c40) (by omega)
          refine r_ic G (pn := 44) rfl rfl  ?_
          refine r_is G (pn := 45) rfl rfl (Nat.le_of_ble_eq_true rfl) ?_
          have lp4 : ∀ (z3 j : Nat) (h' : am_H) (pt : Nat → Nat), j + z3 = n → am_fr (fun i => i = 100) h h' → prtI h' n pt → (∀ i, i < n → pt i < n ∧ Rch n od i (pt i)) → (∀ x i, x < n → i < n → Fdr n od x k i → pt i ≤ x) → (∀ x i', x < n → i' < i → Fdr n od x (k + 1) i' → pt i' ≤ x) → (∀ x j', x < n → j' < j → od i j' ≠ 0 → Fdr n od x k j' → pt i ≤ x) → am_Go (am_KA lx e) (am_fetch cd_58) Q 45 [some (.ref 81), some (.int (nI k)), some (.int (nI i)), some (.int (nI j))] [] h' 0 0 := by
            intro z3
            induction z3 with
            | zero =>
              intro j h' pt hj hf hp hA hB hC hD
              obtain rfl : j = n := by omega
              have kM := hf.at (by omega) hM
              refine r_il G (pn := 46) rfl rfl rfl ?_
              refine r_ra G (pn := 47) rfl rfl rfl ?_
              refine r_get G (pn := 50) rfl rfl (by first | assumption | (repeat (first | assumption | exact am_eq (by first | assumption | exact am_eq (by assumption) | exact am_ne (by first | decide | omega) (by assumption)) | refine am_ne (by first | decide | omega) ?_))) rfl ?_
              rw [m24]
              refine r_if2 G (pn := 53) rfl rfl (fun c50 => ?_) (fun c50 => ?_)
              rotate_left
              · exact absurd (Int32.le_refl _) c50
              refine r_inc G (pn := 112) rfl rfl rfl (Nat.le_of_ble_eq_true rfl) ?_
              refine r_goto G rfl ?_
              rw [nI_1]
              refine ih2 (i + 1) h' pt _ (by omega) hf hp hA hB (fun x i' hx hi' hh => ?_)
              by_cases y : i' = i
              · rw [y] at hh ⊢
                rcases hh with hh | ⟨q, q1, q2, q3⟩
                · exact hB x i hx (by omega) hh
                · exact hD x q hx q1 (by rw [(hod i q (by omega) q1).2]; exact q3) q2
              · exact hC x i' hx (by omega) hh
            | succ z3 ih3 =>
              intro j h' pt hj hf hp hA hB hC hD
              have kM := hf.at (by omega) hM
              have k99 := hf.at (by omega) h99
              obtain ⟨fp, k100, gp⟩ := hp
              have oj := (hod i j (by omega) (by omega)).1
              have pi9 := hA i (by omega)
              have pj9 := hA j (by omega)
              refine r_il G (pn := 46) rfl rfl rfl ?_
              refine r_ra G (pn := 47) rfl rfl rfl ?_
              refine r_get G (pn := 50) rfl rfl (by first | assumption | (repeat (first | assumption | exact am_eq (by first | assumption | exact am_eq (by assumption) | exact am_ne (by first | decide | omega) (by assumption)) | refine am_ne (by first | decide | omega) ?_))) rfl ?_
              rw [m24]
              refine r_if2 G (pn := 53) rfl rfl (fun c50 => ?_) (fun c50 => ?_)
              · exact absurd ((nI_leI (by omega) (by omega)).mp c50) (by omega)
              refine r_ra G (pn := 54) rfl rfl rfl ?_
              refine r_get G (pn := 57) rfl rfl (by first | assumption | (repeat (first | assumption | exact am_eq (by first | assumption | exact am_eq (by assumption) | exact am_ne (by first | decide | omega) (by assumption)) | refine am_ne (by first | decide | omega) ?_))) rfl ?_
              refine r_il G (pn := 58) rfl rfl rfl ?_
              refine r_ra G (pn := 59) rfl rfl rfl ?_
              refine r_get G (pn := 62) rfl rfl (by first | assumption | (repeat (first | assumption | exact am_eq (by first | assumption | exact am_eq (by assumption) | exact am_ne (by first | decide | omega) (by assumption)) | refine am_ne (by first | decide | omega) ?_))) rfl ?_
              refine r_ic G (pn := 64) rfl rfl  ?_
              refine r_il G (pn := 65) rfl rfl rfl ?_
              refine r_ib G (pn := 66) rfl rfl  ?_
              refine r_il G (pn := 67) rfl rfl rfl ?_
              refine r_ib G (pn := 68) rfl rfl  ?_
              rw [nI_10]
              refine r_ialdN G (pn := 69) rfl rfl k99 (by omega) (by omega) ?_
              rw [gt i j (by omega) (by omega)]
              -- what is written
              have wr : ∀ v : Nat, v ≤ pt i → v < n → Rch n od i v → (od i j ≠ 0 → v ≤ pt j) → am_Go (am_KA lx e) (am_fetch cd_58) Q 102 [some (.ref 81), some (.int (nI k)), some (.int (nI i)), some (.int (nI j))] [.int (nI v), .int (nI i), .ref 100] h' 0 0 := by
                intro v hv hvn hvr hvj
                refine r_iastN G (pn := 103) rfl rfl k100 (by omega) (by omega) ?_
                refine r_inc G (pn := 106) rfl rfl rfl (Nat.le_of_ble_eq_true rfl) ?_
                refine r_goto G rfl ?_
                rw [nI_1]
                have le : ∀ p, uN pt i v p ≤ pt p := by
                  intro p
                  by_cases y : p = i
                  · rw [y, uN_s]; exact hv
                  · rw [uN_n y]; exact Nat.le_refl _
                refine ih3 (j + 1) _ (uN pt i v) (by omega) (hf.put rfl) ⟨_, am_eq k100, fun p hp => ?_⟩ (fun p hp => ?_) (fun x p hx hp hh => Nat.le_trans (le p) (hB x p hx hp hh)) (fun x p hx hp hh => Nat.le_trans (le p) (hC x p hx hp hh)) (fun x p hx hp hne hh => ?_)
                · by_cases y : p = i
                  · rw [y, pk_us, uN_s]
                  · rw [pk_un y, uN_n y]; exact gp p hp
                · by_cases y : p = i
                  · rw [y, uN_s]; exact ⟨hvn, hvr⟩
                  · rw [uN_n y]; exact hA p hp
                · by_cases y : p = j
                  · rw [y] at hne hh
                    rw [uN_s]
                    have := hvj hne
                    have := hB x j hx (by omega) hh
                    omega
                  · exact Nat.le_trans (le i) (hD x p hx (by omega) hne hh)
              have keep : (od i j ≠ 0 → pt i ≤ pt j) → am_Go (am_KA lx e) (am_fetch cd_58) Q 96 [some (.ref 81), some (.int (nI k)), some (.int (nI i)), some (.int (nI j))] [.int (nI i), .ref 100] h' 0 0 := by
                intro hh
                refine r_ra G (pn := 97) rfl rfl rfl ?_
                refine r_get G (pn := 100) rfl rfl (by first | assumption | (repeat (first | assumption | exact am_eq (by first | assumption | exact am_eq (by assumption) | exact am_ne (by first | decide | omega) (by assumption)) | refine am_ne (by first | decide | omega) ?_))) rfl ?_
                refine r_il G (pn := 101) rfl rfl rfl ?_
                refine r_ialdN G (pn := 102) rfl rfl k100 (by omega) (by omega) ?_
                rw [gp i (by omega)]
                exact wr (pt i) (Nat.le_refl _) pi9.1 pi9.2 hh
              refine r_if1 G (pn := 72) rfl rfl (fun c69 => ?_) (fun c69 => ?_)
              · refine keep (fun hne => ?_)
                have := (nI_leI (a := od i j) (b := 0) (by omega) (by omega)).mp c69
                omega
              have hne : od i j ≠ 0 := fun y => c69 (by rw [y]; exact Int32.le_refl _)
              refine r_ra G (pn := 73) rfl rfl rfl ?_
              refine r_get G (pn := 76) rfl rfl (by first | assumption | (repeat (first | assumption | exact am_eq (by first | assumption | exact am_eq (by assumption) | exact am_ne (by first | decide | omega) (by assumption)) | refine am_ne (by first | decide | omega) ?_))) rfl ?_
              refine r_il G (pn := 77) rfl rfl rfl ?_
              refine r_ialdN G (pn := 78) rfl rfl k100 (by omega) (by omega) ?_
              refine r_ra G (pn := 79) rfl rfl rfl ?_
              refine r_get G (pn := 82) rfl rfl (by first | assumption | (repeat (first | assumption | exact am_eq (by first | assumption | exact am_eq (by assumption) | exact am_ne (by first | decide | omega) (by assumption)) | refine am_ne (by first | decide | omega) ?_))) rfl ?_
              refine r_il G (pn := 83) rfl rfl rfl ?_
              refine r_ialdN G (pn := 84) rfl rfl k100 (by omega) (by omega) ?_
              rw [gp i (by omega), gp j (by omega)]
              refine r_if2 G (pn := 87) rfl rfl (fun c84 => ?_) (fun c84 => ?_)
              · exact keep (fun _ => (nI_leI (by omega) (by omega)).mp c84)
              have hlt : pt j < pt i := Nat.not_le.mp (fun y => c84 ((nI_leI (by omega) (by omega)).mpr y))
              refine r_ra G (pn := 88) rfl rfl rfl ?_
              refine r_get G (pn := 91) rfl rfl (by first | assumption | (repeat (first | assumption | exact am_eq (by first | assumption | exact am_eq (by assumption) | exact am_ne (by first | decide | omega) (by assumption)) | refine am_ne (by first | decide | omega) ?_))) rfl ?_
              refine r_il G (pn := 92) rfl rfl rfl ?_
              refine r_ialdN G (pn := 93) rfl rfl k100 (by omega) (by omega) ?_
              refine r_goto G rfl ?_
              rw [gp j (by omega)]
              exact wr (pt j) (by omega) pj9.1 ((Rch.rf.st (by omega) (by omega) hne).tr pj9.2) (fun _ => Nat.le_refl _)
          exact lp4 n 0 h' pt (by omega) hf hp hA hB hC (fun x j' hx hj' => absurd hj' (Nat.not_lt_zero j'))
      exact lp3 n 0 h' pt _ (by omega) hf hp hA hB (fun x i' hx hi' => absurd hi' (Nat.not_lt_zero i'))
  have lp1 : ∀ (z k : Nat) (h' : am_H) (f : Nat → Int32), k + z = n → am_fr (fun i => i = 100) h h' → h'[100]? = some (aI 10 f) → (∀ p, p < k → f p = nI p) → am_Go (am_KA lx e) (am_fetch cd_58) Q 2 [some (.ref 81), some (.int (nI k)), none, none] [] h' 0 0 := by
    intro z
    induction z with
    | zero =>
      intro k h' f hk hf k100 gf
      obtain rfl : k = n := by omega
      have kM := hf.at (by omega) hM
      refine r_il G (pn := 3) rfl rfl rfl ?_
      refine r_ra G (pn := 4) rfl rfl rfl ?_
      refine r_get G (pn := 7) rfl rfl (by first | assumption | (repeat (first | assumption | exact am_eq (by first | assumption | exact am_eq (by assumption) | exact am_ne (by first | decide | omega) (by assumption)) | refine am_ne (by first | decide | omega) ?_))) rfl ?_
      rw [m24]
      refine r_if2 G (pn := 10) rfl rfl (fun c7 => ?_) (fun c7 => ?_)
      rotate_left
      · exact absurd (Int32.le_refl _) c7
      refine r_ic G (pn := 24) rfl rfl  ?_
      refine r_is G (pn := 25) rfl rfl (Nat.le_of_ble_eq_true rfl) ?_
      refine lp2 k 0 h' id _ _ (by omega) hf ⟨f, k100, gf⟩ (fun i hi => ⟨hi, Rch.rf⟩) (fun x i hx hi hh => ?_)
      have hh : i = x := hh
      rw [hh]
      exact Nat.le_refl _
    | succ z ih =>
      intro k h' f hk hf k100 gf
      have kM := hf.at (by omega) hM
      refine r_il G (pn := 3) rfl rfl rfl ?_
      refine r_ra G (pn := 4) rfl rfl rfl ?_
      refine r_get G (pn := 7) rfl rfl (by first | assumption | (repeat (first | assumption | exact am_eq (by first | assumption | exact am_eq (by assumption) | exact am_ne (by first | decide | omega) (by assumption)) | refine am_ne (by first | decide | omega) ?_))) rfl ?_
      rw [m24]
      refine r_if2 G (pn := 10) rfl rfl (fun c7 => ?_) (fun c7 => ?_)
      · exact absurd ((nI_leI (by omega) (by omega)).mp c7) (by omega)
      refine r_ra G (pn := 11) rfl rfl rfl ?_
      refine r_get G (pn := 14) rfl rfl (by first | assumption | (repeat (first | assumption | exact am_eq (by first | assumption | exact am_eq (by assumption) | exact am_ne (by first | decide | omega) (by assumption)) | refine am_ne (by first | decide | omega) ?_))) rfl ?_
      refine r_il G (pn := 15) rfl rfl rfl ?_
      refine r_il G (pn := 16) rfl rfl rfl ?_
      refine r_iastN G (pn := 17) rfl rfl k100 (by omega) (by omega) ?_
      refine r_inc G (pn := 20) rfl rfl rfl (Nat.le_of_ble_eq_true rfl) ?_
      refine r_goto G rfl ?_
      rw [nI_1]
      refine ih (k + 1) _ _ (by omega) (hf.put rfl) (am_eq k100) (fun p hp => ?_)
      by_cases y : p = k
      · rw [y, pk_us]
      · rw [pk_un y]; exact gf p (by omega)
  exact lp1 n 0 h f0 (by omega) am_fr.rf h100 (fun p hp => absurd hp (Nat.not_lt_zero p))
end
