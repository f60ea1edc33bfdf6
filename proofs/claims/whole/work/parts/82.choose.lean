def Ext (P n lb : Nat) (C Bf cd : Nat → Nat) (od : Nat → Nat → Nat) (pl : Nat) (c x : Nat → Nat) : Prop := Mt P n lb C Bf cd od x ∧ ∀ j, j < pl → x j = c j
theorem Mt.congr {P n lb : Nat} {C Bf cd : Nat → Nat} {od : Nat → Nat → Nat} {x y : Nat → Nat} (h : Mt P n lb C Bf cd od x) (e : ∀ q, q < P → y q = x q) : Mt P n lb C Bf cd od y := ⟨fun j hj => by
    rw [e j hj]
    exact ⟨(h.1 j hj).1, (h.1 j hj).2.congr (fun p hp => e p (by omega))⟩, h.2.congr e⟩
theorem ChI.fr {h h' : am_H} {pl : Nat} {c : Nat → Nat} (hC : ChI h pl c) (e : h'[59]? = h[59]?) : ChI h' pl c := by
  obtain ⟨f, a, b⟩ := hC
  exact ⟨f, e.trans a, b⟩
theorem sp_73 {lx : am_Lx} {g P n lb : Nat} {C Bf Af cd : Nat → Nat} {od : Nat → Nat → Nat} (hg : 60 < g) (hP : P = 2 ∨ P = 3) (hn : n ≤ 10) (hlb : lb ≤ 10) (hcd : ∀ i, i < n → cd i < 4) (hod : ∀ i j, i < n → j < n → od i j < 4) :
    ∀ (k pl d : Nat) (h : am_H) (Q : am_Q) (cnt : Nat) (T : Nat → Nat → Nat) (c : Nat → Nat), pl + k = P → 1 ≤ k → k + 2 ≤ d → cnt + bd k (n - pl) ≤ 720 → RlI h g P C Bf Af → MxI h n lb cd od → FoI h P cnt T → ChI h pl c → (∀ j, j < pl → c j < n ∧ fitA C Bf cd od c j (c j)) →
    (∀ h' cnt' T', am_fr fiP h h' → FoI h' P cnt' T' → ChI h' pl c → cnt' ≤ cnt + bd k (n - pl) → FoNew P cnt cnt' T T' (Ext P n lb C Bf cd od pl c) → Q none h') → am_KA lx d 73 [.ref 58, .ref g, .ref 43, .int (nI pl)] h Q := by
  intro k
  induction k with
  | zero => intro pl d h Q cnt T c h1 h2; omega
  | succ k ihk =>
    intro pl d h Q cnt T c hpl _ hd hbd hR hX hF hC hc hq
    have cinj : ∀ i j, i < j → j < pl → c i ≠ c j := fun i j hij hj => ((hc j hj).2.2 i hij).1
    have isum := ind_sm (c := c) (n := n) (pl := pl) (fun j hj => (hc j hj).1) cinj
    obtain ⟨e, rfl⟩ : ∃ e, d = e + 1 := ⟨d - 1, by omega⟩
    have G : am_GK (am_KA lx e) cd_73 := ⟨am_KA_m lx e, cm_73⟩
    refine am_KA_in (by decide) (Nat.le_of_ble_eq_true rfl) ?_
    show am_Go (am_KA lx e) (am_fetch cd_73) Q 0 [some (.ref 58), some (.ref g), some (.ref 43), some (.int (nI pl)), none] [] h 0 0
    refine r_ic G (pn := 1) rfl rfl  ?_
    refine r_is G (pn := 3) rfl rfl (Nat.le_of_ble_eq_true rfl) ?_
    have lp : ∀ (k2 a : Nat) (h' : am_H) (cnt' : Nat) (T' : Nat → Nat → Nat), a + k2 = n → am_fr fiP h h' → FoI h' P cnt' T' → ChI h' pl c → cnt' ≤ cnt + sm (ind c pl) a * bd k (n - pl - 1) → FoNew P cnt cnt' T T' (fun x => Ext P n lb C Bf cd od pl c x ∧ x pl < a) → am_Go (am_KA lx e) (am_fetch cd_73) Q 3 [some (.ref 58), some (.ref g), some (.ref 43), some (.int (nI pl)), some (.int (nI a))] [] h' 0 0 := by
      intro k2
      induction k2 with
      | zero =>
        intro a h' cnt' T' ha hf hF' hC' hb hN
        obtain rfl : a = n := by omega
        have hX' : MxI h' a lb cd od := hX.fr hf (fun i hi z => by have := hi.2; have := z.1; omega)
        have h44 := hX'.2.1
        have h43 := hX'.1
        refine r_il G (pn := 5) rfl rfl rfl ?_
        refine r_ra G (pn := 6) rfl rfl rfl ?_
        refine r_get G (pn := 9) rfl rfl h43 rfl ?_
        refine r_get G (pn := 12) rfl rfl h44 rfl ?_
        refine r_if2 G (pn := 15) rfl rfl (fun c12 => ?_) (fun c12 => ?_)
        rotate_left
        · exact absurd (Int32.le_refl _) c12
        refine r_vret G rfl (hq h' cnt' T' hf hF' hC' ?_ ?_)
        · show cnt' ≤ cnt + (a - pl) * bd k (a - pl - 1)
          rw [show sm (ind c pl) a = a - pl by omega] at hb
          exact hb
        · obtain ⟨a1, a2, a3, a4, a5⟩ := hN
          exact ⟨a1, a2, fun i h1 h2 => (a3 i h1 h2).1, a4, fun x hx => a5 x ⟨hx, (hx.1.1 pl (by omega)).1⟩⟩
      | succ k2 ih =>
        intro a h' cnt' T' ha hf hF' hC' hb hN
        have hX' : MxI h' n lb cd od := hX.fr hf (fun i hi z => by have := hi.2; have := z.1; omega)
        have hR' : RlI h' g P C Bf Af := hR.fr hf (fun i h1 h2 z => by have := z.2; omega)
        have h44 := hX'.2.1
        have h43 := hX'.1
        have h58 := hF'.1
        have hg1 := hR'.1
        refine r_il G (pn := 5) rfl rfl rfl ?_
        refine r_ra G (pn := 6) rfl rfl rfl ?_
        refine r_get G (pn := 9) rfl rfl h43 rfl ?_
        refine r_get G (pn := 12) rfl rfl h44 rfl ?_
        refine r_if2 G (pn := 15) rfl rfl (fun c12 => ?_) (fun c12 => ?_)
        · exact absurd ((nI_leI (by omega) (by omega)).mp c12) (by omega)
        refine r_ra G (pn := 16) rfl rfl rfl ?_
        refine r_ra G (pn := 17) rfl rfl rfl ?_
        refine r_ra G (pn := 18) rfl rfl rfl ?_
        refine r_get G (pn := 21) rfl rfl h43 rfl ?_
        refine r_il G (pn := 22) rfl rfl rfl ?_
        refine r_il G (pn := 24) rfl rfl rfl ?_
        have hXX : ∀ (q : Nat) x y, (Ext P n lb C Bf cd od pl c x ∧ x pl < q) → (∀ q, q < P → y q = x q) → (Ext P n lb C Bf cd od pl c y ∧ y pl < q) := fun q x y hx e => ⟨⟨hx.1.1.congr e, fun j hj => (e j (by omega)).trans (hx.1.2 j hj)⟩, by rw [e pl (by omega)]; exact hx.2⟩
        refine r_inv5 G (pn := 27) rfl rfl h58 (Nat.le_of_ble_eq_true rfl) (Nat.le_of_ble_eq_true rfl) (Nat.le_of_ble_eq_true rfl) (sp_74 (by omega) hR' hX'.2 hn hcd hod h58 hC' (fun j hj => (hc j hj).1) (by omega) (by omega) (fun hnf => ?_) (fun hfit => ?_))
        · show am_Go (am_KA lx e) (am_fetch cd_73) Q 27 [some (.ref 58), some (.ref g), some (.ref 43), some (.int (nI pl)), some (.int (nI a))] [.int 0] h' 0 0
          refine r_if1 G (pn := 30) rfl rfl (fun c27 => ?_) (fun c27 => ?_)
          · exact absurd rfl c27
          refine r_goto G rfl ?_
          refine r_inc G (pn := 85) rfl rfl rfl (Nat.le_of_ble_eq_true rfl) ?_
          refine r_goto G rfl ?_
          rw [nI_1]
          refine ih (a + 1) h' cnt' T' (by omega) hf hF' hC' (Nat.le_trans hb ?_) ?_
          · have := sm_mono (f := ind c pl) (a := a) (n := a + 1) (by omega)
            have := Nat.mul_le_mul_right (bd k (n - pl - 1)) this
            omega
          · obtain ⟨a1, a2, a3, a4, a5⟩ := hN
            refine ⟨a1, a2, fun i h1 h2 => ⟨(a3 i h1 h2).1, by have := (a3 i h1 h2).2; omega⟩, a4, fun x hx => ?_⟩
            refine a5 x ⟨hx.1, ?_⟩
            have hxa : x pl ≠ a := fun z => hnf (by
              have := (hx.1.1.1 pl (by omega)).2
              rw [z] at this
              exact this.congr (fun p hp => (hx.1.2 p hp).symm))
            have := hx.2
            omega
        · show am_Go (am_KA lx e) (am_fetch cd_73) Q 27 [some (.ref 58), some (.ref g), some (.ref 43), some (.int (nI pl)), some (.int (nI a))] [.int 1] h' 0 0
          refine r_if1 G (pn := 30) rfl rfl (fun c27 => ?_) (fun c27 => ?_)
          rotate_left
          · exact absurd (by decide) c27
          have ind1 : ind c pl a = 1 := if_pos (fun p hp => (hfit.2 p hp).1)
          have sm1 : sm (ind c pl) (a + 1) = sm (ind c pl) a + 1 := by
            show sm (ind c pl) a + ind c pl a = _
            rw [ind1]
          have smle := sm_mono (f := ind c pl) (a := a + 1) (n := n) (by omega)
          have room : cnt' + bd k (n - pl - 1) ≤ 720 := by
            have h1 : (sm (ind c pl) a + 1) * bd k (n - pl - 1) ≤ (n - pl) * bd k (n - pl - 1) := Nat.mul_le_mul_right _ (by omega)
            have h2 : cnt + (n - pl) * bd k (n - pl - 1) ≤ 720 := hbd
            rw [Nat.add_mul, Nat.one_mul] at h1
            omega
          have room2 : ∀ x, x ≤ cnt' + bd k (n - pl - 1) → x ≤ cnt + sm (ind c pl) (a + 1) * bd k (n - pl - 1) := by
            intro x hx
            rw [sm1, Nat.add_mul, Nat.one_mul]
            omega
          obtain ⟨fc, h59, gc⟩ := id hC'
          refine r_ra G (pn := 34) rfl rfl rfl ?_
          refine r_get G (pn := 37) rfl rfl h58 rfl ?_
          refine r_il G (pn := 38) rfl rfl rfl ?_
          refine r_il G (pn := 40) rfl rfl rfl ?_
          refine r_iastN G (pn := 41) rfl rfl h59 (by omega) (by omega) ?_
          refine r_il G (pn := 42) rfl rfl rfl ?_
          refine r_ic G (pn := 43) rfl rfl  ?_
          refine r_ib G (pn := 44) rfl rfl  ?_
          rw [nI_1]
          -- the state with the atom chosen
          have hfa : am_fr fiP h (h'.set 59 (aI 3 (upd fc pl (nI a)))) := hf.put ⟨by omega, by omega⟩
          have hCa : ChI (h'.set 59 (aI 3 (upd fc pl (nI a)))) (pl + 1) (uN c pl a) := by
            refine ⟨_, am_eq h59, fun j hj => ?_⟩
            by_cases z : j = pl
            · rw [z, pk_us, uN_s]
            · rw [pk_un z, uN_n z]; exact gc j (by omega)
          have hFa : FoI (h'.set 59 (aI 3 (upd fc pl (nI a)))) P cnt' T' := by
            obtain ⟨x1, f, x2, x3⟩ := id hF'
            exact ⟨am_ne (by decide) x1, f, am_ne (by decide) x2, x3⟩
          have hXa : MxI (h'.set 59 (aI 3 (upd fc pl (nI a)))) n lb cd od := hX'.fr (R := fun i => i = 59) (am_fr.rf.put rfl) (fun i hi z => by have := hi.2; omega)
          have hRa : RlI (h'.set 59 (aI 3 (upd fc pl (nI a)))) g P C Bf Af := hR'.fr (R := fun i => i = 59) (am_fr.rf.put rfl) (fun i h1 h2 z => by omega)
          have hca : ∀ j, j < pl + 1 → uN c pl a j < n ∧ fitA C Bf cd od (uN c pl a) j (uN c pl a j) := by
            intro j hj
            by_cases z : j = pl
            · rw [z, uN_s]
              exact ⟨by omega, hfit.congr (fun p hp => uN_n (by omega))⟩
            · rw [uN_n z]
              exact ⟨(hc j (by omega)).1, (hc j (by omega)).2.congr (fun p hp => uN_n (by omega))⟩
          have back : ∀ (h2 : am_H) (cnt2 : Nat) (T2 : Nat → Nat → Nat), am_fr fiP h h2 → FoI h2 P cnt2 T2 → ChI h2 pl c → cnt2 ≤ cnt' + bd k (n - pl - 1) → FoNew P cnt' cnt2 T' T2 (Ext P n lb C Bf cd od (pl + 1) (uN c pl a)) → am_Go (am_KA lx e) (am_fetch cd_73) Q 82 [some (.ref 58), some (.ref g), some (.ref 43), some (.int (nI pl)), some (.int (nI a))] [] h2 0 0 := by
            intro h2 cnt2 T2 hf2 hF2 hC2 hb2 hN2
            refine r_inc G (pn := 85) rfl rfl rfl (Nat.le_of_ble_eq_true rfl) ?_
            refine r_goto G rfl ?_
            rw [nI_1]
            refine ih (a + 1) h2 cnt2 T2 (by omega) hf2 hF2 hC2 (room2 _ hb2) (hN.join hN2 (hXX a) (fun x hx => ⟨hx.1, by have := hx.2; omega⟩) (fun x hx => ?_) (fun x hx => ?_) (fun x y hx hy => ⟨pl, by omega, ?_⟩))
            · have e := hx.2 pl (by omega)
              rw [uN_s] at e
              exact ⟨⟨hx.1, fun j hj => (hx.2 j (by omega)).trans (uN_n (by omega))⟩, by omega⟩
            · by_cases z : x pl = a
              · refine Or.inr ⟨hx.1.1, fun j hj => ?_⟩
                by_cases w : j = pl
                · rw [w, uN_s, z]
                · rw [uN_n w]; exact hx.1.2 j (by omega)
              · exact Or.inl ⟨hx.1, by have := hx.2; omega⟩
            · have e := hy.2 pl (by omega)
              rw [uN_s] at e
              have := hx.2
              omega
          have cpre : ∀ {h2 : am_H}, ChI h2 (pl + 1) (uN c pl a) → ChI h2 pl c := by
            intro h2 ⟨f, x1, x2⟩
            exact ⟨f, x1, fun j hj => by rw [x2 j (by omega), uN_n (by omega)]⟩
          generalize (h'.set 59 (aI 3 (upd fc pl (nI a))) : am_H) = ha at hfa hCa hFa hXa hRa
          show am_Go (am_KA lx e) (am_fetch cd_73) Q 44 [some (.ref 58), some (.ref g), some (.ref 43), some (.int (nI pl)), some (.int (nI a))] [.int (nI (pl + 1))] ha 0 0
          have g1 := hRa.1
          refine r_ra G (pn := 45) rfl rfl rfl ?_
          refine r_get G (pn := 48) rfl rfl g1 rfl ?_
          refine r_if2 G (pn := 51) rfl rfl (fun c48 => ?_) (fun c48 => ?_)
          · have hk0 : k = 0 := by
              have := (nI_leI (by omega) (by omega)).mp c48
              omega
            subst hk0
            have hPl : pl + 1 = P := by omega
            rw [hPl] at hCa hca back
            have a58 := hFa.1
            refine r_ra G (pn := 64) rfl rfl rfl ?_
            refine r_ra G (pn := 65) rfl rfl rfl ?_
            refine r_get G (pn := 68) rfl rfl a58 rfl ?_
            refine r_ra G (pn := 69) rfl rfl rfl ?_
            refine r_get G (pn := 72) rfl rfl g1 rfl ?_
            refine r_inv3 G (pn := 75) rfl rfl hXa.1 (Nat.le_of_ble_eq_true rfl) (Nat.le_of_ble_eq_true rfl) (Nat.le_of_ble_eq_true rfl) (sp_93 (by omega) hXa.1 hCa (by omega) (fun j hj => (hca j hj).1) hn hlb (fun hnt => ?_) (fun ht => ?_))
            · show am_Go (am_KA lx e) (am_fetch cd_73) Q 75 [some (.ref 58), some (.ref g), some (.ref 43), some (.int (nI pl)), some (.int (nI a))] [.int 0] ha 0 0
              refine r_if1 G (pn := 78) rfl rfl (fun c75 => ?_) (fun c75 => ?_)
              rotate_left
              · exact absurd rfl c75
              refine back ha cnt' T' hfa hFa (cpre (hPl ▸ hCa)) (by omega) (FoNew.non (fun x hx => hnt (hx.1.2.congr (fun p hp => (hx.2 p hp).symm))))
            · show am_Go (am_KA lx e) (am_fetch cd_73) Q 75 [some (.ref 58), some (.ref g), some (.ref 43), some (.int (nI pl)), some (.int (nI a))] [.int 1] ha 0 0
              refine r_if1 G (pn := 78) rfl rfl (fun c75 => ?_) (fun c75 => ?_)
              · exact absurd c75 (by decide)
              refine r_ra G (pn := 79) rfl rfl rfl ?_
              have room : cnt' + 1 ≤ 720 := room
              refine r_inv1 G (pn := 82) rfl rfl a58 (Nat.le_of_ble_eq_true rfl) (Nat.le_of_ble_eq_true rfl) (Nat.le_of_ble_eq_true rfl) (sp_75 (by omega) (by omega) hFa hCa (by omega) (fun h2 hf2 he2 hF2 => ?_))
              refine back h2 (cnt' + 1) _ (hfa.tr hf2) hF2 (cpre (hPl ▸ (hCa.fr (he2 59 (by omega) (by omega))))) (Nat.le_refl _) ⟨by omega, fun i hi j hj => by show (if i = cnt' then uN c pl a else T' i) j = _; rw [if_neg (by omega)], fun i h1 h2 => ?_, fun i j h1 h2 h3 => by omega, fun x hx => ⟨cnt', by omega, by omega, fun q hq => ?_⟩⟩
              · have : i = cnt' := by omega
                show Ext _ _ _ _ _ _ _ _ _ (if i = cnt' then uN c pl a else T' i)
                rw [if_pos this]
                exact ⟨⟨hca, ht⟩, fun j hj => rfl⟩
              · show (if cnt' = cnt' then uN c pl a else T' cnt') q = x q
                rw [if_pos rfl]
                exact (hx.2 q hq).symm
          · have hlt : ¬ P ≤ pl + 1 := fun z => c48 ((nI_leI (by omega) (by omega)).mpr z)
            refine r_ra G (pn := 52) rfl rfl rfl ?_
            refine r_ra G (pn := 53) rfl rfl rfl ?_
            refine r_ra G (pn := 54) rfl rfl rfl ?_
            refine r_il G (pn := 55) rfl rfl rfl ?_
            refine r_ic G (pn := 56) rfl rfl  ?_
            refine r_ib G (pn := 57) rfl rfl  ?_
            rw [nI_1]
            have a58 := hFa.1
            refine r_inv4 G (pn := 60) rfl rfl a58 (Nat.le_of_ble_eq_true rfl) (Nat.le_of_ble_eq_true rfl) (Nat.le_of_ble_eq_true rfl) (ihk (pl + 1) e ha _ cnt' T' (uN c pl a) (by omega) (by omega) (by omega) (by rw [show n - (pl + 1) = n - pl - 1 by omega]; exact room) hRa hXa hFa hCa hca (fun h2 cnt2 T2 hf2 hF2 hC2 hb2 hN2 => ?_))
            show am_Go (am_KA lx e) (am_fetch cd_73) Q 60 [some (.ref 58), some (.ref g), some (.ref 43), some (.int (nI pl)), some (.int (nI a))] [] h2 0 0
            refine r_goto G rfl ?_
            exact back h2 cnt2 T2 (hfa.tr hf2) hF2 (cpre hC2) (by rw [show n - (pl + 1) = n - pl - 1 by omega] at hb2; exact hb2) hN2
    exact lp n 0 h cnt T (by omega) am_fr.rf hF hC (by omega) (FoNew.non (fun x hx => absurd hx.2 (Nat.not_lt_zero _)))
section
variable {lx : am_Lx} {d : Nat} {h : am_H} {Q : am_Q}
theorem bd_le {n k : Nat} (hn : n ≤ 10) (hk : k = 2 ∨ k = 3) : bd k n ≤ 720 := by
  have : ∀ n, n < 11 → bd 2 n ≤ 720 ∧ bd 3 n ≤ 720 := by decide
  rcases hk with z | z
  · rw [z]; exact (this n (by omega)).1
  · rw [z]; exact (this n (by omega)).2
theorem sp_71 (hd : 6 ≤ d) {g P n lb cnt0 : Nat} {C Bf Af cd : Nat → Nat} {od : Nat → Nat → Nat} {fo : Nat → Int32} (hg : 60 < g) (hn : n ≤ 10) (hlb : lb ≤ 10) (hcd : ∀ i, i < n → cd i < 4) (hod : ∀ i j, i < n → j < n → od i j < 4) (hR : RlI h g P C Bf Af) (hX : MxI h n lb cd od) (h58 : h[58]? = some (fO cnt0)) (h60 : h[60]? = some (aI 2160 fo)) (hC : ∃ f, h[59]? = some (aI 3 f))
    (hq : ∀ h' cnt T, am_fr fiP h h' → FoI h' P cnt T → (∃ f, h'[59]? = some (aI 3 f)) → cnt ≤ 720 → (∀ i, i < cnt → Mt P n lb C Bf cd od (T i)) → (∀ i j, i < j → j < cnt → ∃ q, q < P ∧ T i q ≠ T j q) → (∀ x, Mt P n lb C Bf cd od x → ∃ i, i < cnt ∧ ∀ q, q < P → T i q = x q) → Q (some (.int (nI cnt))) h') : am_KA lx d 71 [.ref 58, .ref g, .ref 43] h Q := by
  obtain ⟨e, rfl⟩ : ∃ e, d = e + 1 := ⟨d - 1, by omega⟩
  have G : am_GK (am_KA lx e) cd_71 := ⟨am_KA_m lx e, cm_71⟩
  refine am_KA_in (by decide) (Nat.le_of_ble_eq_true rfl) ?_
  show am_Go (am_KA lx e) (am_fetch cd_71) Q 0 [some (.ref 58), some (.ref g), some (.ref 43)] [] h 0 0
  refine r_ra G (pn := 1) rfl rfl rfl ?_
  refine r_ic G (pn := 2) rfl rfl  ?_
  refine r_puti G (pn := 5) rfl rfl (by first | assumption | (repeat (first | assumption | exact am_eq (by first | assumption | exact am_eq (by assumption) | exact am_ne (by first | decide | omega) (by assumption)) | refine am_ne (by first | decide | omega) ?_))) (Nat.le_of_ble_eq_true rfl) ?_
  refine r_ra G (pn := 6) rfl rfl rfl ?_
  refine r_ra G (pn := 7) rfl rfl rfl ?_
  refine r_ra G (pn := 8) rfl rfl rfl ?_
  refine r_ic G (pn := 9) rfl rfl  ?_
  have hP := hR.2.1
  obtain ⟨fc, h59⟩ := hC
  have a58 : (h.set 58 (fO 0))[58]? = some (fO 0) := am_eq h58
  refine r_inv4 G (pn := 12) rfl rfl a58 (Nat.le_of_ble_eq_true rfl) (Nat.le_of_ble_eq_true rfl) (Nat.le_of_ble_eq_true rfl) (sp_73 hg hP hn hlb hcd hod P 0 e _ _ 0 (fun _ _ => 0) (fun _ => 0) (by omega) (by omega) (by omega) (by rw [Nat.sub_zero, Nat.zero_add]; exact bd_le hn hP) (hR.fr (R := fun i => i = 58) (am_fr.rf.put rfl) (fun i h1 h2 z => by omega)) (hX.fr (R := fun i => i = 58) (am_fr.rf.put rfl) (fun i hi z => by have := hi.2; omega)) ⟨a58, fo, am_ne (by decide) h60, fun i hi => absurd hi (Nat.not_lt_zero i)⟩ ⟨fc, am_ne (by decide) h59, fun j hj => absurd hj (Nat.not_lt_zero j)⟩ (fun j hj => absurd hj (Nat.not_lt_zero j)) (fun h' cnt' T' hf hF hC hb hN => ?_))
  obtain ⟨a1, a2, a3, a4, a5⟩ := hN
  have b58 := hF.1
  obtain ⟨f, b59, -⟩ := hC
  show am_Go (am_KA lx e) (am_fetch cd_71) Q 12 [some (.ref 58), some (.ref g), some (.ref 43)] [] h' 0 0
  refine r_ra G (pn := 13) rfl rfl rfl ?_
  refine r_get G (pn := 16) rfl rfl b58 rfl ?_
  refine r_iret G rfl rfl (hq h' cnt' T' ((am_fr.rf.put ⟨by omega, by omega⟩).tr hf) hF ⟨f, b59⟩ ?_ (fun i hi => (a3 i (by omega) hi).1) (fun i j hij hj => a4 i j (by omega) hij hj) (fun x hx => ?_))
  · rw [Nat.sub_zero, Nat.zero_add] at hb
    have := bd_le hn hP
    omega
  · obtain ⟨i, -, i2, i3⟩ := a5 x ⟨hx, fun j hj => absurd hj (Nat.not_lt_zero j)⟩
    exact ⟨i, i2, i3⟩
end
