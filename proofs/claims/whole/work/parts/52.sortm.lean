theorem am_same {h : am_H} {a : Nat} {e : am_C} (h0 : h[a]? = some e) : h.set a e = h := by
  apply List.ext_getElem?
  intro j
  by_cases q : a = j
  · subst q
    rw [am_eq h0, h0]
  · rw [List.getElem?_set_ne q]
def InsI {α : Type} (le : α → α → Prop) (wd g : Nat → α) (a i at_ n : Nat) (mv : α) : Prop := a ≤ at_ ∧ at_ ≤ i ∧ i < n ∧ g at_ = mv ∧ (∀ P : α → Bool, cn P g a (n - a) = cn P wd a (n - a)) ∧ (∀ p q, a ≤ p → p < q → q ≤ i → p ≠ at_ → q ≠ at_ → le (g p) (g q)) ∧ (∀ q, at_ < q → q ≤ i → le mv (g q)) ∧ (∀ q, (q < a ∨ i < q) → g q = wd q)
theorem ins_step {α : Type} {le : α → α → Prop} {wd g g' : Nat → α} {a i at_ n : Nat} {mv : α} (h : InsI le wd g a i (at_ + 1) n mv) (ha : a ≤ at_) (hl : le mv (g at_)) (e1 : g' at_ = mv) (e2 : g' (at_ + 1) = g at_) (e3 : ∀ j, j ≠ at_ → j ≠ at_ + 1 → g' j = g j) : InsI le wd g' a i at_ n mv := by
  obtain ⟨h1, h2, h3, h4, h5, h6, h7, h8⟩ := h
  refine ⟨ha, by omega, h3, e1, fun P => ?_, fun p q ap pq qi np nq => ?_, fun q aq qi => ?_, fun q hq => ?_⟩
  · rw [← h5 P]
    have e4 : a + (at_ - a) = at_ := by omega
    refine cn_swap (i := at_ - a) ?_ ?_ ?_ (by omega)
    · rw [e4, e1, h4]
    · rw [e4, e2]
    · intro j j1 j2
      rw [e4] at j1 j2
      exact e3 j j1 j2
  · by_cases q1 : q = at_ + 1
    · rw [q1, e2, e3 p (by omega) (by omega)]
      exact h6 p at_ ap (by omega) (by omega) (by omega) (by omega)
    · by_cases p1 : p = at_ + 1
      · rw [p1, e2, e3 q (by omega) (by omega)]
        exact h6 at_ q ha (by omega) qi (by omega) (by omega)
      · rw [e3 p np p1, e3 q nq q1]
        exact h6 p q ap pq qi p1 q1
  · by_cases q1 : q = at_ + 1
    · rw [q1, e2]
      exact hl
    · rw [e3 q (by omega) q1]
      exact h7 q (by omega) qi
  · rw [e3 q (by omega) (by omega)]
    exact h8 q hq
theorem ins_exit {α : Type} {le : α → α → Prop} (tr : ∀ x y z, le x y → le y z → le x z) {wd g : Nat → α} {a i at_ n : Nat} {mv : α} (h : InsI le wd g a i at_ n mv) (hx : at_ = a ∨ ∃ k, at_ = k + 1 ∧ a ≤ k ∧ le (g k) mv) : ∀ p q, a ≤ p → p < q → q ≤ i → le (g p) (g q) := by
  obtain ⟨h1, h2, h3, h4, h5, h6, h7, h8⟩ := h
  intro p q ap pq qi
  by_cases p1 : p = at_
  · rw [p1, h4]
    exact h7 q (by omega) qi
  · by_cases q1 : q = at_
    · rcases hx with rfl | ⟨k, rfl, ak, hk⟩
      · omega
      · rw [q1, h4]
        by_cases pk : p = k
        · rw [pk]; exact hk
        · exact tr _ _ _ (h6 p k ap (by omega) (by omega) p1 (by omega)) hk
    · exact h6 p q ap pq qi p1 q1
section
variable {lx : am_Lx} {d : Nat} {h : am_H} {Q : am_Q}
theorem sp_25 (hd : 1 ≤ d) {r a n : Nat} {wd : Nat → Int32} (hr : h[r]? = some (aI 5 wd)) (ha : a < n) (hn : n ≤ 5)
    (hq : ∀ f : Nat → Int32, (∀ p q, a ≤ p → p < q → q < n → f p ≤ f q) → (∀ P : Int32 → Bool, cn P f a (n - a) = cn P wd a (n - a)) → (∀ q, (q < a ∨ n ≤ q) → f q = wd q) → Q none (h.set r (aI 5 f))) : am_KA lx d 25 [.ref r, .int (nI a), .int (nI n)] h Q := by
  obtain ⟨e, rfl⟩ : ∃ e, d = e + 1 := ⟨d - 1, by omega⟩
  have G : am_GK (am_KA lx e) cd_25 := ⟨am_KA_m lx e, cm_25⟩
  refine am_KA_in (by decide) (Nat.le_of_ble_eq_true rfl) ?_
  show am_Go (am_KA lx e) (am_fetch cd_25) Q 0 [some (.ref r), some (.int (nI a)), some (.int (nI n)), none, none, none] [] h 0 0
  refine r_il G (pn := 1) rfl rfl rfl ?_
  refine r_ic G (pn := 2) rfl rfl  ?_
  refine r_ib G (pn := 3) rfl rfl  ?_
  rw [nI_1]
  refine r_is G (pn := 4) rfl rfl (Nat.le_of_ble_eq_true rfl) ?_
  have lp : ∀ (k i : Nat) (f : Nat → Int32) (d4 d5 : Option Value), i + k = n → a < i → (∀ p q, a ≤ p → p < q → q < i → f p ≤ f q) → (∀ P : Int32 → Bool, cn P f a (n - a) = cn P wd a (n - a)) → (∀ q, (q < a ∨ i ≤ q) → f q = wd q) → am_Go (am_KA lx e) (am_fetch cd_25) Q 4 [some (.ref r), some (.int (nI a)), some (.int (nI n)), some (.int (nI i)), d4, d5] [] (h.set r (aI 5 f)) 0 0 := by
    intro k
    induction k with
    | zero =>
      intro i f d4 d5 hi hai s1 s2 s3
      obtain rfl : i = n := by omega
      refine r_il G (pn := 5) rfl rfl rfl ?_
      refine r_il G (pn := 6) rfl rfl rfl ?_
      refine r_if2 G (pn := 9) rfl rfl (fun c6 => ?_) (fun c6 => ?_)
      · refine r_vret G rfl (hq f s1 s2 s3)
      · exact absurd (Int32.le_refl _) c6
    | succ k ih =>
      intro i f d4 d5 hi hai s1 s2 s3
      refine r_il G (pn := 5) rfl rfl rfl ?_
      refine r_il G (pn := 6) rfl rfl rfl ?_
      refine r_if2 G (pn := 9) rfl rfl (fun c6 => ?_) (fun c6 => ?_)
      · exact absurd ((nI_leI (by omega) (by omega)).mp c6) (by omega)
      · refine r_ra G (pn := 10) rfl rfl rfl ?_
        refine r_il G (pn := 11) rfl rfl rfl ?_
        refine r_ialdN G (pn := 12) rfl rfl (am_eq hr) (by omega) (by omega) ?_
        refine r_is G (pn := 14) rfl rfl (Nat.le_of_ble_eq_true rfl) ?_
        refine r_il G (pn := 15) rfl rfl rfl ?_
        refine r_is G (pn := 17) rfl rfl (Nat.le_of_ble_eq_true rfl) ?_
        have inn : ∀ (t : Nat) (f2 : Nat → Int32), InsI (fun x y => x ≤ y) wd (upd f2 t (f i)) a i t n (f i) → am_Go (am_KA lx e) (am_fetch cd_25) Q 17 [some (.ref r), some (.int (nI a)), some (.int (nI n)), some (.int (nI i)), some (.int (f i)), some (.int (nI t))] [] (h.set r (aI 5 f2)) 0 0 := by
          have fin : ∀ (t : Nat) (f2 : Nat → Int32), InsI (fun x y => x ≤ y) wd (upd f2 t (f i)) a i t n (f i) → (t = a ∨ ∃ k, t = k + 1 ∧ a ≤ k ∧ upd f2 t (f i) k ≤ f i) → am_Go (am_KA lx e) (am_fetch cd_25) Q 50 [some (.ref r), some (.int (nI a)), some (.int (nI n)), some (.int (nI i)), some (.int (f i)), some (.int (nI t))] [] (h.set r (aI 5 f2)) 0 0 := by
            intro t f2 hI hx
            have hsrt := ins_exit (le := fun x y : Int32 => x ≤ y) (fun x y z q1 q2 => Int32.le_trans q1 q2) hI hx
            obtain ⟨h1, h2, h3, h4, h5, h6, h7, h8⟩ := hI
            refine r_ra G (pn := 51) rfl rfl rfl ?_
            refine r_il G (pn := 53) rfl rfl rfl ?_
            refine r_il G (pn := 55) rfl rfl rfl ?_
            refine r_iastN G (pn := 56) rfl rfl (am_eq hr) (by omega) (by omega) ?_
            rw [List.set_set]
            refine r_inc G (pn := 59) rfl rfl rfl (Nat.le_of_ble_eq_true rfl) ?_
            refine r_goto G rfl ?_
            rw [nI_1]
            exact ih (i + 1) (upd f2 t (f i)) _ _ (by omega) (by omega) (fun p q ap pq qi => hsrt p q ap pq (by omega)) h5 (fun q hq => h8 q (by omega))
          intro t
          induction t with
          | zero =>
            intro f2 hI
            refine r_il G (pn := 19) rfl rfl rfl ?_
            refine r_il G (pn := 20) rfl rfl rfl ?_
            refine r_if2 G (pn := 23) rfl rfl (fun c20 => ?_) (fun c20 => ?_)
            · exact fin 0 f2 hI (Or.inl (by have := hI.1; omega))
            · exact absurd ((nI_leI (a := 0) (b := a) (by omega) (by omega)).mpr (Nat.zero_le _)) c20
          | succ t iht =>
            intro f2 hI
            have ht5 : t + 1 < 5 := by have := hI.2.1; have := hI.2.2.1; omega
            refine r_il G (pn := 19) rfl rfl rfl ?_
            refine r_il G (pn := 20) rfl rfl rfl ?_
            refine r_if2 G (pn := 23) rfl rfl (fun c20 => ?_) (fun c20 => ?_)
            · exact fin (t + 1) f2 hI (Or.inl (by
                have := (nI_leI (a := t + 1) (b := a) (by omega) (by omega)).mp c20
                have := hI.1
                omega))
            · have hat : a ≤ t := by
                have : ¬ t + 1 ≤ a := fun q => c20 ((nI_leI (by omega) (by omega)).mpr q)
                omega
              refine r_ra G (pn := 24) rfl rfl rfl ?_
              refine r_il G (pn := 26) rfl rfl rfl ?_
              refine r_ic G (pn := 27) rfl rfl  ?_
              refine r_ib G (pn := 28) rfl rfl  ?_
              rw [nI_pred]
              refine r_ialdN G (pn := 29) rfl rfl (am_eq hr) (by omega) (by omega) ?_
              refine r_il G (pn := 31) rfl rfl rfl ?_
              have eg : upd f2 (t + 1) (f i) t = f2 t := pk_un (by omega)
              refine r_if2 G (pn := 34) rfl rfl (fun c31 => ?_) (fun c31 => ?_)
              · exact fin (t + 1) f2 hI (Or.inr ⟨t, rfl, hat, by rw [eg]; exact c31⟩)
              · refine r_ra G (pn := 35) rfl rfl rfl ?_
                refine r_il G (pn := 37) rfl rfl rfl ?_
                refine r_ra G (pn := 38) rfl rfl rfl ?_
                refine r_il G (pn := 40) rfl rfl rfl ?_
                refine r_ic G (pn := 41) rfl rfl  ?_
                refine r_ib G (pn := 42) rfl rfl  ?_
                rw [nI_pred]
                refine r_ialdN G (pn := 43) rfl rfl (am_eq hr) (by omega) (by omega) ?_
                refine r_iastN G (pn := 44) rfl rfl (am_eq hr) (by omega) (by omega) ?_
                rw [List.set_set]
                refine r_inc G (pn := 47) rfl rfl rfl (Nat.le_of_ble_eq_true rfl) ?_
                refine r_goto G rfl ?_
                rw [pk_m1]
                refine iht (upd f2 (t + 1) (f2 t)) (ins_step hI hat (by rw [eg]; exact Int32.le_of_lt (Int32.not_le.mp c31)) pk_us ?_ ?_)
                · rw [pk_un (by omega), pk_us, eg]
                · intro j j1 j2
                  rw [pk_un j1, pk_un j2, pk_un j2]
        refine inn i f ⟨by omega, Nat.le_refl _, by omega, pk_us, fun P => ?_, fun p q ap pq qi np nq => ?_, fun q h1 h2 => absurd h1 (by omega), fun q hq => ?_⟩
        · rw [← s2 P]
          refine cn_congr (fun j hj => ?_)
          by_cases q : a + j = i
          · rw [q, pk_us]
          · rw [pk_un q]
        · rw [pk_un np, pk_un nq]
          exact s1 p q ap pq (by omega)
        · rw [pk_un (by omega)]
          exact s3 q (by omega)
  have := lp (n - (a + 1)) (a + 1) wd none none (by omega) (by omega) (fun p q ap pq qi => absurd pq (by omega)) (fun _ => rfl) (fun _ _ => rfl)
  rw [am_same hr] at this
  exact this
end
