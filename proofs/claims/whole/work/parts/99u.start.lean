theorem ms_all {h : am_H} (h89 : ∃ f, h[89]? = some (aI (msZ 89) f)) (h90 : ∃ f, h[90]? = some (aI (msZ 90) f)) (h92 : ∃ f, h[92]? = some (aI (msZ 92) f)) (h93 : ∃ f, h[93]? = some (aI (msZ 93) f)) (h94 : ∃ f, h[94]? = some (aI (msZ 94) f)) (h95 : ∃ f, h[95]? = some (aI (msZ 95) f)) (h96 : ∃ f, h[96]? = some (aI (msZ 96) f)) (h97 : ∃ f, h[97]? = some (aI (msZ 97) f)) (h98 : ∃ f, h[98]? = some (aI (msZ 98) f)) (h99 : ∃ f, h[99]? = some (aI (msZ 99) f)) (h100 : ∃ f, h[100]? = some (aI (msZ 100) f)) (h101 : ∃ f, h[101]? = some (aI (msZ 101) f)) (h102 : ∃ f, h[102]? = some (aI (msZ 102) f)) (h103 : ∃ f, h[103]? = some (aI (msZ 103) f)) (h104 : ∃ f, h[104]? = some (aI (msZ 104) f)) : MsI h := by
  intro i hi
  rcases (show i = 89 ∨ i = 90 ∨ i = 92 ∨ i = 93 ∨ i = 94 ∨ i = 95 ∨ i = 96 ∨ i = 97 ∨ i = 98 ∨ i = 99 ∨ i = 100 ∨ i = 101 ∨ i = 102 ∨ i = 103 ∨ i = 104 from Classical.byContradiction (fun z => hi (by unfold msZ; simp only [show i ≠ 89 by omega, show i ≠ 90 by omega, show i ≠ 92 by omega, show i ≠ 93 by omega, show i ≠ 94 by omega, show i ≠ 95 by omega, show i ≠ 96 by omega, show i ≠ 97 by omega, show i ≠ 98 by omega, show i ≠ 99 by omega, show i ≠ 100 by omega, show i ≠ 101 by omega, show i ≠ 102 by omega, show i ≠ 103 by omega, show i ≠ 104 by omega, if_false]))) with z | z | z | z | z | z | z | z | z | z | z | z | z | z | z
  · subst z; exact h89
  · subst z; exact h90
  · subst z; exact h92
  · subst z; exact h93
  · subst z; exact h94
  · subst z; exact h95
  · subst z; exact h96
  · subst z; exact h97
  · subst z; exact h98
  · subst z; exact h99
  · subst z; exact h100
  · subst z; exact h101
  · subst z; exact h102
  · subst z; exact h103
  · subst z; exact h104
set_option maxRecDepth 100000 in
theorem law_go {L : Nat} {xs : Nat → Int32} (hL : L ≤ 3073) : am_Go (am_KA (L, xs) 12) (am_fetch (cd_law (L, xs))) (fun v _ => v = some (.int 1)) 0 [some (.float 0), none, none, none] [] [] 0 0 := by
  have G : am_GK (am_KA (L, xs) 12) (cd_law (L, xs)) := ⟨am_KA_m (L, xs) 12, cm_law (L, xs)⟩
  refine mk_o (n := 0) G rfl rfl rfl (Nat.le_of_ble_eq_true rfl) (Nat.le_of_ble_eq_true rfl) (fun s0 Ls Fo Ao => ?_)
  refine r_dup G (pn := 4) rfl rfl rfl ?_
  refine r_rf G (pn := 5) rfl rfl rfl ?_
  refine r_ic G (pn := 6) rfl rfl  ?_
  refine r_ins2 G (pn := 9) rfl rfl (Nat.le_of_ble_eq_true rfl) (Nat.le_of_ble_eq_true rfl) (Nat.le_of_ble_eq_true rfl) (sp_131 (by omega) (by omega) ?_)
  obtain ⟨x, hx⟩ : ∃ x, x = (if 0 < L then xs 0 else 0) := ⟨_, rfl⟩
  rw [← hx]
  show am_Go _ _ _ 9 [some (.float 0), none, none, none] [.int x, .ref 0, .ref 0] s0 _ _
  refine r_inm2 G (pn := 12) rfl rfl (Nat.le_of_ble_eq_true rfl) (Nat.le_of_ble_eq_true rfl) (Nat.le_of_ble_eq_true rfl) (sp_0 (by omega) Ls Ao (fun h1 L1 W1 => ?_))
  show am_Go _ _ _ 12 [some (.float 0), none, none, none] [.ref 0] h1 _ _
  refine r_rs G (pn := 13) rfl rfl (Nat.le_of_ble_eq_true rfl) ?_
  show am_Go _ _ _ 13 [some (.float 0), some (.ref 0), none, none] [] h1 _ _
  refine mk_o (n := 81) G rfl rfl L1 (Nat.le_of_ble_eq_true rfl) (Nat.le_of_ble_eq_true rfl) (fun s1 Ls1 Fo1 Ao1 => ?_)
  refine r_dup G (pn := 17) rfl rfl rfl ?_
  refine r_rf G (pn := 18) rfl rfl rfl ?_
  refine r_ic G (pn := 19) rfl rfl  ?_
  refine r_ins2 G (pn := 22) rfl rfl (Nat.le_of_ble_eq_true rfl) (Nat.le_of_ble_eq_true rfl) (Nat.le_of_ble_eq_true rfl) (sp_131 (by omega) (by omega) ?_)
  rw [← hx]
  show am_Go _ _ _ 22 [some (.float 0), some (.ref 0), none, none] [.int x, .ref 81, .ref 81] s1 _ _
  refine r_inm2 G (pn := 25) rfl rfl (Nat.le_of_ble_eq_true rfl) (Nat.le_of_ble_eq_true rfl) (Nat.le_of_ble_eq_true rfl) (sp_26 (by omega) Ls1 Ao1 (fun h2 F2 A2 C82 C83 C84 C85 C86 C87 C88 C89 C90 C91 C92 C93 C94 C95 C96 C97 C98 C99 C100 C101 C102 C103 C104 => ?_))
  show am_Go _ _ _ 25 [some (.float 0), some (.ref 0), none, none] [.ref 81] h2 _ _
  refine r_rs G (pn := 26) rfl rfl (Nat.le_of_ble_eq_true rfl) ?_
  refine r_ic G (pn := 27) rfl rfl  ?_
  refine r_is G (pn := 28) rfl rfl (Nat.le_of_ble_eq_true rfl) ?_
  show am_Go _ _ _ 28 [some (.float 0), some (.ref 0), some (.ref 81), some (.int (nI 1))] [] h2 _ _
  have qf : am_fr (fun i => 81 ≤ i) h1 h2 := fun i hi => (F2 i (by omega)).trans (Fo1 i (by omega))
  have cp := capN_ok x
  refine law_loop (by omega) hL (by decide) (by decide) (L + 1) 1 h2 (by omega) (by omega) ⟨_, g00 x, fun _ => 0, 0, 0, 0, fun _ _ => 0, fun _ => 0, fun _ => 0, W1.fr qf (fun i hi => hi), ⟨A2, ms_all ⟨_, C89⟩ ⟨_, C90⟩ ⟨_, C92⟩ ⟨_, C93⟩ ⟨_, C94⟩ ⟨_, C95⟩ ⟨_, C96⟩ ⟨_, C97⟩ ⟨_, C98⟩ ⟨_, C99⟩ ⟨_, C100⟩ ⟨_, C101⟩ ⟨_, C102⟩ ⟨_, C103⟩ ⟨_, C104⟩, rfl, rfl, rfl, ⟨rfl, _, C83, fun i hi => absurd hi (Nat.not_lt_zero i)⟩, ⟨rfl, Nat.zero_le _, _, C88, fun i hi => absurd hi (Nat.not_lt_zero i)⟩, ⟨_, C91⟩, C82, ⟨_, _, _, _, C84, C85, C86, C87, fun i hi => absurd hi (Nat.not_lt_zero i), fun i hi a b hab hb => ⟨rfl, rfl⟩⟩⟩, ⟨⟨cp.1, cp.2.1⟩, Nat.zero_le _, Nat.zero_le _, Nat.zero_le _, fun i hi => absurd hi (Nat.not_lt_zero i), fun i hi => absurd hi (Nat.not_lt_zero i), fun i j hi => absurd hi (Nat.not_lt_zero i), fun i j _ hj => absurd hj (Nat.not_lt_zero j), fun i hi => absurd hi (Nat.not_lt_zero i), fun i hi => absurd hi (Nat.not_lt_zero i), fun i hi q hq => ⟨by show 0 < 4; omega, by show 0 < 4; omega⟩⟩⟩
/-- from the entry, for every script of at most 3073 ints, the law comes to its end with true -/
theorem whole_start {p : Program} {e : Env} {s : State} {m : MethodId} {below : List Frame} {meth : Method} {c : Code} (l : Launch) {b L : Nat} {xs : Nat → Int32} (hL : L ≤ 3073) (C0 : lw_At p s m meth c b L xs) : W p l e room_1 s m #[Value.ref b] below meth c s.heap [] 0 0 (lw_Z below #[Value.ref b] s) (entryFrame m ([Value.ref b] : List Value).toArray 4) := am_start l 12 (by decide) C0 (law_go hL)
