def srP (i : Nat) : Prop := i = 81 ∨ i = 88 ∨ i = 89 ∨ i = 90
/-- the model's list -/
def MlI (h : am_H) (m : Nat → Int32) (ln : Nat) (L : Nat → Nat → Nat) : Prop := m 10 = nI ln ∧ ln ≤ 40 ∧ ∃ f, h[88]? = some (aI 205 f) ∧ ∀ i, i < ln → ∀ k, k < 5 → f (5 * i + k) = nI (L i k) - 1 ∧ L i k < 16
theorem MlI.fr {h h' : am_H} {m m' : Nat → Int32} {rn : Nat} {R : Nat → Nat → Nat} {P : Nat → Prop} (hI : MlI h m rn R) (hf : am_fr P h h') (hP : ¬ P 88) (hm : m' 10 = m 10) : MlI h' m' rn R := by
  obtain ⟨h1, h2, f, h3, h4⟩ := hI
  exact ⟨hm.trans h1, h2, f, hf.at hP h3, h4⟩
section
variable {lx : am_Lx} {d : Nat} {h : am_H} {Q : am_Q} {m : Nat → Int32}
set_option maxRecDepth 20000 in
theorem sp_66 (hd : 2 ≤ d) {rn : Nat} {R : Nat → Nat → Nat} {f88 : Nat → Int32} (hM : h[81]? = some (mO m)) (hS : MsI h) (hW : MwI h m rn R) (hd16 : ∀ i, i < rn → ∀ k, k < 5 → R i k < 16) (h88 : h[88]? = some (aI 205 f88)) (hdist : ∀ i j, i < j → j < rn → ∀ t t', RowM id (R i) t → RowM id (R j) t' → ¬ eq5 t t')
    (hq : ∀ h' m' L, am_fr srP h h' → (∀ i, i ≠ 10 → m' i = m i) → h'[81]? = some (mO m') → MsI h' → MlI h' m' rn L → Sor rn L → (∀ j, j < rn → ∃ i, i < rn ∧ RowM id (R i) (L j)) → (∀ i, i < rn → ∃ j, j < rn ∧ RowM id (R i) (L j)) → Q none h') : am_KA lx d 66 [.ref 81] h Q := by
  obtain ⟨m12, rn40, fw, h89, gw⟩ := id hW
  obtain ⟨f90, h90⟩ := hS 90 (by decide)
  have h90 : h[90]? = some (aI 5 f90) := h90
  obtain ⟨e, rfl⟩ : ∃ e, d = e + 1 := ⟨d - 1, by omega⟩
  have G : am_GK (am_KA lx e) cd_66 := ⟨am_KA_m lx e, cm_66⟩
  refine am_KA_in (by decide) (Nat.le_of_ble_eq_true rfl) ?_
  show am_Go (am_KA lx e) (am_fetch cd_66) Q 0 [some (.ref 81), none, none, none] [] h 0 0
  refine r_ic G (pn := 1) rfl rfl  ?_
  refine r_is G (pn := 2) rfl rfl (Nat.le_of_ble_eq_true rfl) ?_
  -- the second part: each row to its rank
  have second : ∀ (h1 : am_H) (f T9 : Nat → Int32) (T : Nat → Nat → Nat) (y2 y3 : Option Value), am_fr (fun i => i = 89 ∨ i = 90) h h1 → h1[89]? = some (aI 205 f) → h1[90]? = some (aI 5 T9) → (∀ i, i < rn → ∀ k, k < 5 → f (5 * i + k) = nI (T i k) - 1 ∧ T i k < 16) → (∀ i, i < rn → RowM id (R i) (T i)) → am_Go (am_KA lx e) (am_fetch cd_66) Q 82 [some (.ref 81), some (.int (nI 0)), y2, y3] [] h1 0 0 := by
    intro h1 f T9 T y2 y3 hf1 k89 k90 gT hT
    have kM := hf1.at (by omega) hM
    have Ms1 : MsI h1 := hS.fr hf1 (fun i hi _ => by rcases hi with hi | hi <;> subst hi <;> first | exact ⟨f, k89⟩ | exact ⟨T9, k90⟩)
    have inj : ∀ i j, i < rn → j < rn → (fun i => e16 (T i) 5) i = (fun i => e16 (T i) 5) j → i = j := by
      intro i j hi hj e
      have e5 : eq5 (T i) (T j) := (e16_inj (fun k hk => (gT i hi k hk).2) (fun k hk => (gT j hj k hk).2)).mp e
      rcases Nat.lt_trichotomy i j with y | y | y
      · exact absurd e5 (hdist i j y hj _ _ (hT i hi) (hT j hj))
      · exact y
      · exact absurd (fun k hk => (e5 k hk).symm) (hdist j i y hi _ _ (hT j hj) (hT i hi))
    have sur := inj_sur (fun q hq => rk_lt (n0 := 0) (U := fun i => e16 (T i) 5) hq) (rk_inj (n0 := 0) inj)
    have pi : ∀ i, ∃ q, i < rn → q < rn ∧ rk 0 rn (fun i => e16 (T i) 5) q = i := by
      intro i
      by_cases hi : i < rn
      · obtain ⟨x, x1, x2⟩ := sur i hi
        exact ⟨x, fun _ => ⟨x1, x2⟩⟩
      · exact ⟨0, fun y => absurd y hi⟩
    have pis : ∀ i, i < rn → Classical.choose (pi i) < rn ∧ rk 0 rn (fun i => e16 (T i) 5) (Classical.choose (pi i)) = i := fun i hi => Classical.choose_spec (pi i) hi
    -- the end
    have fin : ∀ (h2 : am_H) (g : Nat → Int32) (y2 y3 : Option Value), am_fr (fun i => i = 88) h1 h2 → h2[88]? = some (aI 205 g) → (∀ q, q < rn → ∀ c, c < 5 → g (5 * rk 0 rn (fun i => e16 (T i) 5) q + c) = nI (T q c) - 1) → am_Go (am_KA lx e) (am_fetch cd_66) Q 164 [some (.ref 81), some (.int (nI rn)), y2, y3] [] h2 0 0 := by
      intro h2 g y2 y3 hf2 k88 gg
      have lM := hf2.at (by omega) kM
      refine r_ra G (pn := 165) rfl rfl rfl ?_
      refine r_ra G (pn := 166) rfl rfl rfl ?_
      refine r_get G (pn := 169) rfl rfl (by first | assumption | (repeat (first | assumption | exact am_eq (by first | assumption | exact am_eq (by assumption) | exact am_ne (by first | decide | omega) (by assumption)) | refine am_ne (by first | decide | omega) ?_))) rfl ?_
      rw [m12]
      refine r_puti G (pn := 172) rfl rfl lM (Nat.le_of_ble_eq_true rfl) ?_
      have q9 : am_fr (fun i => i = 81) h2 (h2.set 81 (mO (upd m 10 (nI rn)))) := am_fr.rf.put rfl
      have q8 : am_fr srP h (h2.set 81 (mO (upd m 10 (nI rn)))) := ((hf1.wk (fun i hi => by unfold srP; omega)).tr (hf2.wk (fun i hi => by unfold srP; omega))).tr (q9.wk (fun i hi => by unfold srP; omega))
      refine r_vret G rfl (hq _ (upd m 10 (nI rn)) (fun i => T (Classical.choose (pi i))) q8 (fun i hi => pk_un hi) (am_eq lM) ?_ ⟨pk_us, rn40, g, am_ne (by decide) k88, fun i hi k hk => ?_⟩ (fun i j hij hj => ?_) (fun j hj => ⟨_, (pis j hj).1, hT _ (pis j hj).1⟩) (fun i hi => ?_))
      · exact (Ms1.fr hf2 (fun i hi hz => by subst hi; exact absurd rfl hz)).fr q9 (fun i hi hz => by subst hi; exact absurd rfl hz)
      · obtain ⟨p1, p2⟩ := pis i hi
        have := gg _ p1 k hk
        rw [p2] at this
        exact ⟨this, (gT _ p1 k hk).2⟩
      · obtain ⟨p1, p2⟩ := pis i (by omega)
        obtain ⟨p3, p4⟩ := pis j hj
        show e16 (T (Classical.choose (pi i))) 5 < e16 (T (Classical.choose (pi j))) 5
        generalize Classical.choose (pi i) = x at p1 p2
        generalize Classical.choose (pi j) = x' at p3 p4
        rcases Nat.lt_trichotomy (e16 (T x) 5) (e16 (T x') 5) with y | y | y
        · exact y
        · have := inj x x' p1 p3 y
          rw [this] at p2
          omega
        · have := rk_mono (n0 := 0) (u := rn) (U := fun i => e16 (T i) 5) (p := x') (q := x) (Nat.zero_le _) p3 (Nat.zero_le _) y
          omega
      · have hr := rk_lt (n0 := 0) (u := rn) (U := fun i => e16 (T i) 5) hi
        obtain ⟨p1, p2⟩ := pis _ hr
        refine ⟨_, hr, ?_⟩
        show RowM id (R i) (T (Classical.choose (pi (rk 0 rn (fun i => e16 (T i) 5) i))))
        rw [rk_inj (n0 := 0) inj _ _ p1 hi p2]
        exact hT i hi
    have lp : ∀ (z r : Nat) (h2 : am_H) (g : Nat → Int32) (y2 y3 : Option Value), r + z = rn → am_fr (fun i => i = 88) h1 h2 → h2[88]? = some (aI 205 g) → (∀ q, q < r → ∀ c, c < 5 → g (5 * rk 0 rn (fun i => e16 (T i) 5) q + c) = nI (T q c) - 1) → am_Go (am_KA lx e) (am_fetch cd_66) Q 82 [some (.ref 81), some (.int (nI r)), y2, y3] [] h2 0 0 := by
      intro z
      induction z with
      | zero =>
        intro r h2 g y2 y3 hr hf2 k88 gg
        obtain rfl : r = rn := by omega
        have lM := hf2.at (by omega) kM
        refine r_il G (pn := 83) rfl rfl rfl ?_
        refine r_ra G (pn := 84) rfl rfl rfl ?_
        refine r_get G (pn := 87) rfl rfl (by first | assumption | (repeat (first | assumption | exact am_eq (by first | assumption | exact am_eq (by assumption) | exact am_ne (by first | decide | omega) (by assumption)) | refine am_ne (by first | decide | omega) ?_))) rfl ?_
        rw [m12]
        refine r_if2 G (pn := 90) rfl rfl (fun c87 => ?_) (fun c87 => ?_)
        rotate_left
        · exact absurd (Int32.le_refl _) c87
        exact fin h2 g _ _ hf2 k88 gg
      | succ z ih =>
        intro r h2 g y2 y3 hr hf2 k88 gg
        have lM := hf2.at (by omega) kM
        have l89 := hf2.at (by omega) k89
        refine r_il G (pn := 83) rfl rfl rfl ?_
        refine r_ra G (pn := 84) rfl rfl rfl ?_
        refine r_get G (pn := 87) rfl rfl (by first | assumption | (repeat (first | assumption | exact am_eq (by first | assumption | exact am_eq (by assumption) | exact am_ne (by first | decide | omega) (by assumption)) | refine am_ne (by first | decide | omega) ?_))) rfl ?_
        rw [m12]
        refine r_if2 G (pn := 90) rfl rfl (fun c87 => ?_) (fun c87 => ?_)
        · exact absurd ((nI_leI (by omega) (by omega)).mp c87) (by omega)
        refine r_ic G (pn := 91) rfl rfl  ?_
        refine r_is G (pn := 92) rfl rfl (Nat.le_of_ble_eq_true rfl) ?_
        refine r_ic G (pn := 93) rfl rfl  ?_
        refine r_is G (pn := 94) rfl rfl (Nat.le_of_ble_eq_true rfl) ?_
        have cnt : ∀ (z2 q : Nat), q + z2 = rn → am_Go (am_KA lx e) (am_fetch cd_66) Q 94 [some (.ref 81), some (.int (nI r)), some (.int (nI (cn (fun x => decide (x < e16 (T r) 5)) (fun i => e16 (T i) 5) 0 q))), some (.int (nI q))] [] h2 0 0 := by
          intro z2
          induction z2 with
          | zero =>
            intro q hq'
            obtain rfl : q = rn := by omega
            have rkl := rk_lt (n0 := 0) (u := q) (U := fun i => e16 (T i) 5) (q := r) (by omega)
            have er : cn (fun x => decide (x < e16 (T r) 5)) (fun i => e16 (T i) 5) 0 q = rk 0 q (fun i => e16 (T i) 5) r := by
              unfold rk
              rw [if_neg (Nat.not_lt_zero _), Nat.zero_add, Nat.sub_zero]
            rw [er]
            refine r_il G (pn := 95) rfl rfl rfl ?_
            refine r_ra G (pn := 96) rfl rfl rfl ?_
            refine r_get G (pn := 99) rfl rfl (by first | assumption | (repeat (first | assumption | exact am_eq (by first | assumption | exact am_eq (by assumption) | exact am_ne (by first | decide | omega) (by assumption)) | refine am_ne (by first | decide | omega) ?_))) rfl ?_
            rw [m12]
            refine r_if2 G (pn := 102) rfl rfl (fun c99 => ?_) (fun c99 => ?_)
            rotate_left
            · exact absurd (Int32.le_refl _) c99
            refine r_ic G (pn := 126) rfl rfl  ?_
            refine r_is G (pn := 127) rfl rfl (Nat.le_of_ble_eq_true rfl) ?_
            have cp : ∀ (z3 c : Nat) (h3 : am_H) (g : Nat → Int32), c + z3 = 5 → am_fr (fun i => i = 88) h1 h3 → h3[88]? = some (aI 205 g) → (∀ q', q' < r → ∀ c, c < 5 → g (5 * rk 0 q (fun i => e16 (T i) 5) q' + c) = nI (T q' c) - 1) → (∀ c', c' < c → g (5 * rk 0 q (fun i => e16 (T i) 5) r + c') = nI (T r c') - 1) → am_Go (am_KA lx e) (am_fetch cd_66) Q 127 [some (.ref 81), some (.int (nI r)), some (.int (nI (rk 0 q (fun i => e16 (T i) 5) r))), some (.int (nI c))] [] h3 0 0 := by
              intro z3
              induction z3 with
              | zero =>
                intro c h3 g hc hf3 j88 g1 g2
                obtain rfl : c = 5 := by omega
                refine r_il G (pn := 128) rfl rfl rfl ?_
                refine r_ic G (pn := 129) rfl rfl  ?_
                refine r_if2 G (pn := 132) rfl rfl (fun c129 => ?_) (fun c129 => ?_)
                rotate_left
                · exact absurd (by decide) c129
                refine r_inc G (pn := 161) rfl rfl rfl (Nat.le_of_ble_eq_true rfl) ?_
                refine r_goto G rfl ?_
                rw [nI_1]
                refine ih (r + 1) h3 g _ _ (by omega) hf3 j88 (fun q' hq' c hc => ?_)
                by_cases y : q' = r
                · rw [y]; exact g2 c hc
                · exact g1 q' (by omega) c hc
              | succ z3 ih3 =>
                intro c h3 g hc hf3 j88 g1 g2
                have nM := hf3.at (by omega) kM
                have n89 := hf3.at (by omega) k89
                refine r_il G (pn := 128) rfl rfl rfl ?_
                refine r_ic G (pn := 129) rfl rfl  ?_
                refine r_if2 G (pn := 132) rfl rfl (fun c129 => ?_) (fun c129 => ?_)
                · exact absurd ((nI_leI (a := 5) (by omega) (by omega)).mp c129) (by omega)
                refine r_ra G (pn := 133) rfl rfl rfl ?_
                refine r_get G (pn := 136) rfl rfl (by first | assumption | (repeat (first | assumption | exact am_eq (by first | assumption | exact am_eq (by assumption) | exact am_ne (by first | decide | omega) (by assumption)) | refine am_ne (by first | decide | omega) ?_))) rfl ?_
                refine r_ic G (pn := 137) rfl rfl  ?_
                refine r_il G (pn := 138) rfl rfl rfl ?_
                refine r_ib G (pn := 139) rfl rfl  ?_
                rw [nI_5l]
                refine r_il G (pn := 140) rfl rfl rfl ?_
                refine r_ib G (pn := 141) rfl rfl  ?_
                rw [nI_add]
                refine r_ra G (pn := 142) rfl rfl rfl ?_
                refine r_get G (pn := 145) rfl rfl (by first | assumption | (repeat (first | assumption | exact am_eq (by first | assumption | exact am_eq (by assumption) | exact am_ne (by first | decide | omega) (by assumption)) | refine am_ne (by first | decide | omega) ?_))) rfl ?_
                refine r_ic G (pn := 146) rfl rfl  ?_
                refine r_il G (pn := 147) rfl rfl rfl ?_
                refine r_ib G (pn := 148) rfl rfl  ?_
                rw [nI_5l]
                refine r_il G (pn := 149) rfl rfl rfl ?_
                refine r_ib G (pn := 150) rfl rfl  ?_
                rw [nI_add]
                refine r_ialdN G (pn := 151) rfl rfl n89 (by omega) (by omega) ?_
                rw [(gT r (by omega) c (by omega)).1]
                refine r_iastN G (pn := 152) rfl rfl j88 (by omega) (by omega) ?_
                refine r_inc G (pn := 155) rfl rfl rfl (Nat.le_of_ble_eq_true rfl) ?_
                refine r_goto G rfl ?_
                rw [nI_1]
                refine ih3 (c + 1) _ _ (by omega) (hf3.put rfl) (am_eq j88) (fun q' hq' c' hc' => ?_) (fun c' hc' => ?_)
                · have : rk 0 q (fun i => e16 (T i) 5) q' ≠ rk 0 q (fun i => e16 (T i) 5) r := fun e => by
                    have := rk_inj (n0 := 0) inj q' r (by omega) (by omega) e
                    omega
                  rw [pk_un (by omega)]
                  exact g1 q' hq' c' hc'
                · by_cases y : c' = c
                  · rw [y, pk_us]
                  · rw [pk_un (by omega)]; exact g2 c' (by omega)
            exact cp 5 0 h2 g (by omega) hf2 k88 gg (fun c' hc' => absurd hc' (Nat.not_lt_zero c'))
          | succ z2 ih2 =>
            intro q hq'
            have cb := cn_le (P := fun x => decide (x < e16 (T r) 5)) (f := fun i => e16 (T i) 5) (a := 0) (k := q)
            refine r_il G (pn := 95) rfl rfl rfl ?_
            refine r_ra G (pn := 96) rfl rfl rfl ?_
            refine r_get G (pn := 99) rfl rfl (by first | assumption | (repeat (first | assumption | exact am_eq (by first | assumption | exact am_eq (by assumption) | exact am_ne (by first | decide | omega) (by assumption)) | refine am_ne (by first | decide | omega) ?_))) rfl ?_
            rw [m12]
            refine r_if2 G (pn := 102) rfl rfl (fun c99 => ?_) (fun c99 => ?_)
            · exact absurd ((nI_leI (by omega) (by omega)).mp c99) (by omega)
            refine r_ra G (pn := 103) rfl rfl rfl ?_
            refine r_il G (pn := 104) rfl rfl rfl ?_
            refine r_il G (pn := 105) rfl rfl rfl ?_
            refine r_inv3 G (pn := 108) rfl rfl lM (Nat.le_of_ble_eq_true rfl) (Nat.le_of_ble_eq_true rfl) (Nat.le_of_ble_eq_true rfl) (sp_65 (rn := rn) (R := T) (by omega) lM rn40 l89 gT (by omega) (by omega) (fun hn => ?_) (fun hy => ?_))
            · show am_Go (am_KA lx e) (am_fetch cd_66) Q 108 [some (.ref 81), some (.int (nI r)), some (.int (nI (cn (fun x => decide (x < e16 (T r) 5)) (fun i => e16 (T i) 5) 0 q))), some (.int (nI q))] [.int 0] h2 0 0
              refine r_if1 G (pn := 111) rfl rfl (fun c108 => ?_) (fun c108 => ?_)
              rotate_left
              · exact absurd rfl c108
              refine r_il G (pn := 118) rfl rfl rfl ?_
              refine r_is G (pn := 119) rfl rfl (Nat.le_of_ble_eq_true rfl) ?_
              refine r_inc G (pn := 122) rfl rfl rfl (Nat.le_of_ble_eq_true rfl) ?_
              refine r_goto G rfl ?_
              rw [nI_1]
              have := ih2 (q + 1) (by omega)
              rw [show cn (fun x => decide (x < e16 (T r) 5)) (fun i => e16 (T i) 5) 0 (q + 1) = cn (fun x => decide (x < e16 (T r) 5)) (fun i => e16 (T i) 5) 0 q from by
                show _ + (if decide (e16 (T (0 + q)) 5 < e16 (T r) 5) = true then 1 else 0) = _
                rw [Nat.zero_add, if_neg (fun y => hn (of_decide_eq_true y))]
                omega] at this
              exact this
            · show am_Go (am_KA lx e) (am_fetch cd_66) Q 108 [some (.ref 81), some (.int (nI r)), some (.int (nI (cn (fun x => decide (x < e16 (T r) 5)) (fun i => e16 (T i) 5) 0 q))), some (.int (nI q))] [.int 1] h2 0 0
              refine r_if1 G (pn := 111) rfl rfl (fun c108 => ?_) (fun c108 => ?_)
              · exact absurd c108 (by decide)
              refine r_il G (pn := 112) rfl rfl rfl ?_
              refine r_ic G (pn := 113) rfl rfl  ?_
              refine r_ib G (pn := 114) rfl rfl  ?_
              refine r_goto G rfl ?_
              refine r_is G (pn := 119) rfl rfl (Nat.le_of_ble_eq_true rfl) ?_
              refine r_inc G (pn := 122) rfl rfl rfl (Nat.le_of_ble_eq_true rfl) ?_
              refine r_goto G rfl ?_
              rw [nI_1, nI_1]
              have := ih2 (q + 1) (by omega)
              rw [show cn (fun x => decide (x < e16 (T r) 5)) (fun i => e16 (T i) 5) 0 (q + 1) = cn (fun x => decide (x < e16 (T r) 5)) (fun i => e16 (T i) 5) 0 q + 1 from by
                show _ + (if decide (e16 (T (0 + q)) 5 < e16 (T r) 5) = true then 1 else 0) = _
                rw [Nat.zero_add, if_pos (decide_eq_true hy)]] at this
              exact this
        exact cnt rn 0 (by omega)
    exact lp rn 0 h1 f88 _ _ (by omega) am_fr.rf (hf1.at (by omega) h88) (fun q hq => absurd hq (Nat.not_lt_zero q))
  -- the first part: each row sorted
  have first : ∀ (z r : Nat) (h1 : am_H) (f T9 : Nat → Int32) (T : Nat → Nat → Nat) (y2 : Option Value), r + z = rn → am_fr (fun i => i = 89 ∨ i = 90) h h1 → h1[89]? = some (aI 205 f) → h1[90]? = some (aI 5 T9) → (∀ i, i < rn → ∀ k, k < 5 → f (5 * i + k) = nI (T i k) - 1 ∧ T i k < 16) → (∀ i, i < r → RowM id (R i) (T i)) → (∀ i, r ≤ i → i < rn → T i = R i) → am_Go (am_KA lx e) (am_fetch cd_66) Q 2 [some (.ref 81), some (.int (nI r)), y2, none] [] h1 0 0 := by
    intro z
    induction z with
    | zero =>
      intro r h1 f T9 T y2 hr hf1 k89 k90 gT hT hT2
      obtain rfl : r = rn := by omega
      have kM := hf1.at (by omega) hM
      refine r_il G (pn := 3) rfl rfl rfl ?_
      refine r_ra G (pn := 4) rfl rfl rfl ?_
      refine r_get G (pn := 7) rfl rfl (by first | assumption | (repeat (first | assumption | exact am_eq (by first | assumption | exact am_eq (by assumption) | exact am_ne (by first | decide | omega) (by assumption)) | refine am_ne (by first | decide | omega) ?_))) rfl ?_
      rw [m12]
      refine r_if2 G (pn := 10) rfl rfl (fun c7 => ?_) (fun c7 => ?_)
      rotate_left
      · exact absurd (Int32.le_refl _) c7
      refine r_ic G (pn := 81) rfl rfl  ?_
      refine r_is G (pn := 82) rfl rfl (Nat.le_of_ble_eq_true rfl) ?_
      exact second h1 f T9 T _ _ hf1 k89 k90 gT hT
    | succ z ih =>
      intro r h1 f T9 T y2 hr hf1 k89 k90 gT hT hT2
      have kM := hf1.at (by omega) hM
      refine r_il G (pn := 3) rfl rfl rfl ?_
      refine r_ra G (pn := 4) rfl rfl rfl ?_
      refine r_get G (pn := 7) rfl rfl (by first | assumption | (repeat (first | assumption | exact am_eq (by first | assumption | exact am_eq (by assumption) | exact am_ne (by first | decide | omega) (by assumption)) | refine am_ne (by first | decide | omega) ?_))) rfl ?_
      rw [m12]
      refine r_if2 G (pn := 10) rfl rfl (fun c7 => ?_) (fun c7 => ?_)
      · exact absurd ((nI_leI (by omega) (by omega)).mp c7) (by omega)
      refine r_ic G (pn := 11) rfl rfl  ?_
      refine r_is G (pn := 12) rfl rfl (Nat.le_of_ble_eq_true rfl) ?_
      have c1 : ∀ (z2 k : Nat) (h2 : am_H) (o : Nat → Int32), k + z2 = 5 → am_fr (fun i => i = 89 ∨ i = 90) h h2 → h2[89]? = some (aI 205 f) → h2[90]? = some (aI 5 o) → (∀ q, q < k → o q = nI (R r q) - 1) → am_Go (am_KA lx e) (am_fetch cd_66) Q 12 [some (.ref 81), some (.int (nI r)), some (.int (nI k)), none] [] h2 0 0 := by
        intro z2
        induction z2 with
        | zero =>
          intro k h2 o hk hf2 l89 l90 go
          obtain rfl : k = 5 := by omega
          have lM := hf2.at (by omega) hM
          refine r_il G (pn := 13) rfl rfl rfl ?_
          refine r_ic G (pn := 14) rfl rfl  ?_
          refine r_if2 G (pn := 17) rfl rfl (fun c14 => ?_) (fun c14 => ?_)
          rotate_left
          · exact absurd (by decide) c14
          refine r_ra G (pn := 40) rfl rfl rfl ?_
          refine r_ic G (pn := 41) rfl rfl  ?_
          refine r_ic G (pn := 42) rfl rfl  ?_
          refine r_inv3 G (pn := 45) rfl rfl lM (Nat.le_of_ble_eq_true rfl) (Nat.le_of_ble_eq_true rfl) (Nat.le_of_ble_eq_true rfl) (sp_61 (a := 2) (n := 3) (by omega) lM l90 (by omega) (fun h3 o3 hf3 n90 s1 s2 s3 => ?_))
          obtain ⟨t, t1, t2, t3, t4⟩ := srt_viewG (M := 16) (v := R r) (by omega) (by omega) (fun q hq => ⟨go q hq, hd16 r (by omega) q hq⟩) s1 s2 s3
          have hM3 : RowM id (R r) t := ⟨t4 0 (by omega) (by omega), t4 1 (by omega) (by omega), t2 2 3 (by omega) (by omega) (by omega), t2 3 4 (by omega) (by omega) (by omega), t3⟩
          show am_Go (am_KA lx e) (am_fetch cd_66) Q 45 [some (.ref 81), some (.int (nI r)), some (.int (nI 5)), none] [] h3 0 0
          refine r_ic G (pn := 46) rfl rfl  ?_
          refine r_is G (pn := 47) rfl rfl (Nat.le_of_ble_eq_true rfl) ?_
          have hf3' : am_fr (fun i => i = 89 ∨ i = 90) h h3 := hf2.tr (hf3.wk (fun i hi => Or.inr hi))
          have c2 : ∀ (z3 k : Nat) (h4 : am_H) (f4 : Nat → Int32), k + z3 = 5 → am_fr (fun i => i = 89 ∨ i = 90) h h4 → h4[89]? = some (aI 205 f4) → h4[90]? = some (aI 5 o3) → (∀ i, i < rn → i ≠ r → ∀ c, c < 5 → f4 (5 * i + c) = f (5 * i + c)) → (∀ q, q < k → f4 (5 * r + q) = nI (t q) - 1) → am_Go (am_KA lx e) (am_fetch cd_66) Q 47 [some (.ref 81), some (.int (nI r)), some (.int (nI k)), none] [] h4 0 0 := by
            intro z3
            induction z3 with
            | zero =>
              intro k h4 f4 hk hf4 j89 j90 g1 g2
              obtain rfl : k = 5 := by omega
              refine r_il G (pn := 48) rfl rfl rfl ?_
              refine r_ic G (pn := 49) rfl rfl  ?_
              refine r_if2 G (pn := 52) rfl rfl (fun c49 => ?_) (fun c49 => ?_)
              rotate_left
              · exact absurd (by decide) c49
              refine r_inc G (pn := 77) rfl rfl rfl (Nat.le_of_ble_eq_true rfl) ?_
              refine r_goto G rfl ?_
              rw [nI_1]
              have e1 : (if r = r then t else T r) = t := if_pos rfl
              have e2 : ∀ i, i ≠ r → (if i = r then t else T i) = T i := fun i hi => if_neg hi
              refine ih (r + 1) h4 f4 o3 (fun i => if i = r then t else T i) _ (by omega) hf4 j89 j90 (fun i hi c hc => ?_) (fun i hi => ?_) (fun i h1 h2 => ?_)
              · by_cases y : i = r
                · rw [y, e1, g2 c hc]; exact ⟨rfl, (t1 c hc).2⟩
                · rw [e2 i y, g1 i hi y c hc]; exact gT i hi c hc
              · by_cases y : i = r
                · rw [y, e1]; exact hM3
                · rw [e2 i y]; exact hT i (by omega)
              · rw [e2 i (by omega)]; exact hT2 i (by omega) h2
            | succ z3 ih3 =>
              intro k h4 f4 hk hf4 j89 j90 g1 g2
              have jM := hf4.at (by omega) hM
              refine r_il G (pn := 48) rfl rfl rfl ?_
              refine r_ic G (pn := 49) rfl rfl  ?_
              refine r_if2 G (pn := 52) rfl rfl (fun c49 => ?_) (fun c49 => ?_)
              · exact absurd ((nI_leI (a := 5) (by omega) (by omega)).mp c49) (by omega)
              refine r_ra G (pn := 53) rfl rfl rfl ?_
              refine r_get G (pn := 56) rfl rfl (by first | assumption | (repeat (first | assumption | exact am_eq (by first | assumption | exact am_eq (by assumption) | exact am_ne (by first | decide | omega) (by assumption)) | refine am_ne (by first | decide | omega) ?_))) rfl ?_
              refine r_ic G (pn := 57) rfl rfl  ?_
              refine r_il G (pn := 58) rfl rfl rfl ?_
              refine r_ib G (pn := 59) rfl rfl  ?_
              rw [nI_5l]
              refine r_il G (pn := 60) rfl rfl rfl ?_
              refine r_ib G (pn := 61) rfl rfl  ?_
              rw [nI_add]
              refine r_ra G (pn := 62) rfl rfl rfl ?_
              refine r_get G (pn := 65) rfl rfl (by first | assumption | (repeat (first | assumption | exact am_eq (by first | assumption | exact am_eq (by assumption) | exact am_ne (by first | decide | omega) (by assumption)) | refine am_ne (by first | decide | omega) ?_))) rfl ?_
              refine r_il G (pn := 66) rfl rfl rfl ?_
              refine r_ialdN G (pn := 67) rfl rfl j90 (by omega) (by omega) ?_
              rw [(t1 k (by omega)).1]
              refine r_iastN G (pn := 68) rfl rfl j89 (by omega) (by omega) ?_
              refine r_inc G (pn := 71) rfl rfl rfl (Nat.le_of_ble_eq_true rfl) ?_
              refine r_goto G rfl ?_
              rw [nI_1]
              refine ih3 (k + 1) _ _ (by omega) (hf4.put (Or.inl rfl)) (am_eq j89) (am_ne (by decide) j90) (fun i hi hne c hc => by rw [pk_un (by omega)]; exact g1 i hi hne c hc) (fun q hq => ?_)
              by_cases y : q = k
              · rw [y, pk_us]
              · rw [pk_un (by omega)]; exact g2 q (by omega)
          exact c2 5 0 h3 f (by omega) hf3' (hf3.at (by omega) l89) n90 (fun _ _ _ _ _ => rfl) (fun q hq => absurd hq (Nat.not_lt_zero q))
        | succ z2 ih2 =>
          intro k h2 o hk hf2 l89 l90 go
          have lM := hf2.at (by omega) hM
          refine r_il G (pn := 13) rfl rfl rfl ?_
          refine r_ic G (pn := 14) rfl rfl  ?_
          refine r_if2 G (pn := 17) rfl rfl (fun c14 => ?_) (fun c14 => ?_)
          · exact absurd ((nI_leI (a := 5) (by omega) (by omega)).mp c14) (by omega)
          refine r_ra G (pn := 18) rfl rfl rfl ?_
          refine r_get G (pn := 21) rfl rfl (by first | assumption | (repeat (first | assumption | exact am_eq (by first | assumption | exact am_eq (by assumption) | exact am_ne (by first | decide | omega) (by assumption)) | refine am_ne (by first | decide | omega) ?_))) rfl ?_
          refine r_il G (pn := 22) rfl rfl rfl ?_
          refine r_ra G (pn := 23) rfl rfl rfl ?_
          refine r_get G (pn := 26) rfl rfl (by first | assumption | (repeat (first | assumption | exact am_eq (by first | assumption | exact am_eq (by assumption) | exact am_ne (by first | decide | omega) (by assumption)) | refine am_ne (by first | decide | omega) ?_))) rfl ?_
          refine r_ic G (pn := 27) rfl rfl  ?_
          refine r_il G (pn := 28) rfl rfl rfl ?_
          refine r_ib G (pn := 29) rfl rfl  ?_
          rw [nI_5l]
          refine r_il G (pn := 30) rfl rfl rfl ?_
          refine r_ib G (pn := 31) rfl rfl  ?_
          rw [nI_add]
          refine r_ialdN G (pn := 32) rfl rfl l89 (by omega) (by omega) ?_
          rw [(gT r (by omega) k (by omega)).1, hT2 r (Nat.le_refl _) (by omega)]
          refine r_iastN G (pn := 33) rfl rfl l90 (by omega) (by omega) ?_
          refine r_inc G (pn := 36) rfl rfl rfl (Nat.le_of_ble_eq_true rfl) ?_
          refine r_goto G rfl ?_
          rw [nI_1]
          refine ih2 (k + 1) _ _ (by omega) (hf2.put (Or.inr rfl)) (am_ne (by decide) l89) (am_eq l90) (fun q hq => ?_)
          by_cases y : q = k
          · rw [y, pk_us]
          · rw [pk_un y]; exact go q (by omega)
      exact c1 5 0 h1 T9 (by omega) hf1 k89 k90 (fun q hq => absurd hq (Nat.not_lt_zero q))
  exact first rn 0 h fw f90 R _ (by omega) am_fr.rf h89 h90 (fun i hi k hk => ⟨(gw i hi k hk).1, hd16 i hi k hk⟩) (fun i hi => absurd hi (Nat.not_lt_zero i)) (fun _ _ _ => rfl)
end
