theorem sp_126 {lx : am_Lx} {d : Nat} (hd : 1 ≤ d) {h : am_H} {n : Nat} {Q : am_Q} (hn : n < 1000) (hq : Q (some (.int (nI (n * (n - 1) / 2)))) h) : am_KA lx d 126 [.int (nI n)] h Q := by
  obtain ⟨e, rfl⟩ : ∃ e, d = e + 1 := ⟨d - 1, by omega⟩
  have G : am_GK (am_KA lx e) cd_126 := ⟨am_KA_m lx e, cm_126⟩
  refine am_KA_in (by decide) (Nat.le_of_ble_eq_true rfl) ?_
  show am_Go (am_KA lx e) (am_fetch cd_126) Q 0 [some (.int (nI n))] [] h 0 0
  refine r_il G (pn := 1) rfl rfl rfl ?_
  refine r_il G (pn := 2) rfl rfl rfl ?_
  refine r_ic G (pn := 3) rfl rfl  ?_
  refine r_ib G (pn := 4) rfl rfl  ?_
  refine r_ib G (pn := 5) rfl rfl  ?_
  refine r_ic G (pn := 6) rfl rfl  ?_
  have h2 : ¬ (2 : Int32) = 0 := by decide
  refine r_idiv G (pn := 7) rfl rfl (by assumption) ?_
  have e : nI n * (nI n - 1) / 2 = nI (n * (n - 1) / 2) := by
    cases n with
    | zero => decide
    | succ k =>
      rw [nI_pred, pk_mul]
      have hm : (k + 1) * k < 1000 * 1000 := Nat.mul_lt_mul'' hn (by omega)
      exact pk_div (d := 2) (by omega) (by decide) (by decide)
  rw [e]
  refine r_iret G rfl rfl hq
theorem sp_127 {lx : am_Lx} {d : Nat} (hd : 1 ≤ d) {h : am_H} {a c o : Nat} {Q : am_Q} (ha : a < 8) (hc : c < 1024) (ho : o < 1048576) (hq : Q (some (.long (lN (a * 1073741824 + c * 1048576 + o)))) h) : am_KA lx d 127 [.int (nI a), .int (nI c), .int (nI o)] h Q := by
  obtain ⟨e, rfl⟩ : ∃ e, d = e + 1 := ⟨d - 1, by omega⟩
  have G : am_GK (am_KA lx e) cd_127 := ⟨am_KA_m lx e, cm_127⟩
  refine am_KA_in (by decide) (Nat.le_of_ble_eq_true rfl) ?_
  show am_Go (am_KA lx e) (am_fetch cd_127) Q 0 [some (.int (nI a)), some (.int (nI c)), some (.int (nI o))] [] h 0 0
  refine r_il G (pn := 1) rfl rfl rfl ?_
  refine r_i2l G (pn := 2) rfl rfl  ?_
  refine r_ic G (pn := 4) rfl rfl  ?_
  refine r_lsh G (pn := 5) rfl rfl  ?_
  refine r_il G (pn := 6) rfl rfl rfl ?_
  refine r_i2l G (pn := 7) rfl rfl  ?_
  refine r_lb G (pn := 8) rfl rfl  ?_
  refine r_ic G (pn := 10) rfl rfl  ?_
  refine r_lsh G (pn := 11) rfl rfl  ?_
  refine r_il G (pn := 12) rfl rfl rfl ?_
  refine r_i2l G (pn := 13) rfl rfl  ?_
  refine r_lb G (pn := 14) rfl rfl  ?_
  have e1 : (lN (a * 2 ^ 10) ||| lN c) = lN (a * 2 ^ 10 + c) := am_orL hc (by omega)
  have e2 : (lN ((a * 2 ^ 10 + c) * 2 ^ 20) ||| lN o) = lN (a * 1073741824 + c * 1048576 + o) := by
    rw [am_orL ho (by omega)]
    exact congrArg lN (by omega)
  rw [nI_l (by omega), nI_l (by omega), nI_l (by omega)]
  rw [show ((10 : Int32).toInt64 &&& 63) = ((nI 10).toInt64 &&& 63) from rfl, show ((20 : Int32).toInt64 &&& 63) = ((nI 20).toInt64 &&& 63) from rfl, wb_shl a (by decide), e1, wb_shl _ (by decide), e2]
  refine r_lret G rfl hq
theorem sp_128 {lx : am_Lx} {d : Nat} (hd : 1 ≤ d) {h : am_H} {w : Nat} {Q : am_Q} (hw : w < 2 ^ 34) (hq : Q (some (.int (nI (w / 1073741824)))) h) : am_KA lx d 128 [.long (lN w)] h Q := by
  obtain ⟨e, rfl⟩ : ∃ e, d = e + 1 := ⟨d - 1, by omega⟩
  have G : am_GK (am_KA lx e) cd_128 := ⟨am_KA_m lx e, cm_128⟩
  refine am_KA_in (by decide) (Nat.le_of_ble_eq_true rfl) ?_
  show am_Go (am_KA lx e) (am_fetch cd_128) Q 0 [some (.long (lN w)), none] [] h 0 0
  refine r_ll G (pn := 1) rfl rfl rfl ?_
  refine r_ic G (pn := 3) rfl rfl  ?_
  refine r_lsh G (pn := 4) rfl rfl  ?_
  refine r_l2i G (pn := 5) rfl rfl  ?_
  rw [show ((30 : Int32).toInt64 &&& 63) = ((nI 30).toInt64 &&& 63) from rfl, am_shrL (by omega) (by decide), lN_i]
  refine r_iret G rfl rfl hq
theorem sp_129 {lx : am_Lx} {d : Nat} (hd : 2 ≤ d) {h : am_H} {w i : Nat} {Q : am_Q} (hw : w < 2 ^ 34) (hi : i < w / 1073741824) (h5 : w / 1073741824 ≤ 5) (hq : Q (some (.int (nI (w / 2 ^ (20 + 2 * (w / 1073741824 - 1 - i)) % 4)))) h) : am_KA lx d 129 [.long (lN w), .int (nI i)] h Q := by
  obtain ⟨e, rfl⟩ : ∃ e, d = e + 1 := ⟨d - 1, by omega⟩
  have G : am_GK (am_KA lx e) cd_129 := ⟨am_KA_m lx e, cm_129⟩
  refine am_KA_in (by decide) (Nat.le_of_ble_eq_true rfl) ?_
  show am_Go (am_KA lx e) (am_fetch cd_129) Q 0 [some (.long (lN w)), none, some (.int (nI i)), none] [] h 0 0
  refine r_ll G (pn := 1) rfl rfl rfl ?_
  refine r_ins1 G (pn := 4) rfl rfl (Nat.le_of_ble_eq_true rfl) (Nat.le_of_ble_eq_true rfl) (Nat.le_of_ble_eq_true rfl) (sp_128 (by omega) hw ?_)
  generalize ha : w / 1073741824 = a at hi h5 hq ⊢
  show am_Go (am_KA lx e) (am_fetch cd_129) Q 4 [some (.long (lN w)), none, some (.int (nI i)), none] [.int (nI a)] h 0 0
  refine r_ic G (pn := 5) rfl rfl  ?_
  refine r_ib G (pn := 6) rfl rfl  ?_
  refine r_il G (pn := 7) rfl rfl rfl ?_
  refine r_ib G (pn := 8) rfl rfl  ?_
  refine r_is G (pn := 9) rfl rfl (Nat.le_of_ble_eq_true rfl) ?_
  refine r_ll G (pn := 10) rfl rfl rfl ?_
  refine r_ic G (pn := 12) rfl rfl  ?_
  refine r_ic G (pn := 13) rfl rfl  ?_
  refine r_il G (pn := 14) rfl rfl rfl ?_
  refine r_ib G (pn := 15) rfl rfl  ?_
  refine r_ib G (pn := 16) rfl rfl  ?_
  refine r_lsh G (pn := 17) rfl rfl  ?_
  refine r_l2i G (pn := 18) rfl rfl  ?_
  refine r_ic G (pn := 19) rfl rfl  ?_
  refine r_ib G (pn := 20) rfl rfl  ?_
  have e1 : nI a - 1 - nI i = nI (a - 1 - i) := by
    obtain ⟨k, rfl⟩ : ∃ k, a = k + 1 := ⟨a - 1, by omega⟩
    rw [nI_pred, pk_sub (by omega)]
    rfl
  have e2 : (20 : Int32) + 2 * nI (a - 1 - i) = nI (20 + 2 * (a - 1 - i)) := by
    rw [show (2 : Int32) * nI (a - 1 - i) = nI (2 * (a - 1 - i)) from pk_mul 2 _]
    exact nI_add 20 _
  rw [e1, e2, am_shrL (by omega) (by omega), lN_i, am_and3]
  refine r_iret G rfl rfl hq
theorem sp_130 {lx : am_Lx} {d : Nat} (hd : 2 ≤ d) {h : am_H} {w i j : Nat} {Q : am_Q} (hw : w < 2 ^ 34) (hi : i < w / 1073741824) (hj : j < w / 1073741824) (h5 : w / 1073741824 ≤ 5) (hq : Q (some (.int (nI (if i = j then 0 else w / 2 ^ (2 * ((w / 1073741824) * (w / 1073741824 - 1) / 2 - 1 - (max i j * (max i j - 1) / 2 + min i j))) % 4)))) h) : am_KA lx d 130 [.long (lN w), .int (nI i), .int (nI j)] h Q := by
  obtain ⟨e, rfl⟩ : ∃ e, d = e + 1 := ⟨d - 1, by omega⟩
  have G : am_GK (am_KA lx e) cd_130 := ⟨am_KA_m lx e, cm_130⟩
  refine am_KA_in (by decide) (Nat.le_of_ble_eq_true rfl) ?_
  show am_Go (am_KA lx e) (am_fetch cd_130) Q 0 [some (.long (lN w)), none, some (.int (nI i)), some (.int (nI j)), none, none] [] h 0 0
  refine r_il G (pn := 1) rfl rfl rfl ?_
  refine r_il G (pn := 2) rfl rfl rfl ?_
  refine r_if2 G (pn := 5) rfl rfl (fun c2 => ?_) (fun c2 => ?_)
  · have hne : ¬ i = j := fun q => c2 (by rw [q])
    rw [if_neg hne] at hq
    refine r_il G (pn := 8) rfl rfl rfl ?_
    refine r_il G (pn := 9) rfl rfl rfl ?_
    refine r_max G (pn := 12) rfl rfl (Nat.le_of_ble_eq_true rfl) ?_
    have hmx : (if nI i < nI j then nI j else nI i) = nI (max i j) := am_mxI (by omega) (by omega)
    have hmn : (if nI j < nI i then nI j else nI i) = nI (min i j) := am_mnI (by omega) (by omega)
    rw [hmx]
    refine r_ins1 G (pn := 15) rfl rfl (Nat.le_of_ble_eq_true rfl) (Nat.le_of_ble_eq_true rfl) (Nat.le_of_ble_eq_true rfl) (sp_126 (by omega) (by omega) ?_)
    generalize hM : max i j = M at hq ⊢
    generalize hm : min i j = m9 at hq hmn ⊢
    have hMm : m9 < M := by omega
    have hM5 : M < w / 1073741824 := by omega
    show am_Go (am_KA lx e) (am_fetch cd_130) Q 15 [some (.long (lN w)), none, some (.int (nI i)), some (.int (nI j)), none, none] [.int (nI (M * (M - 1) / 2))] h 0 0
    refine r_il G (pn := 16) rfl rfl rfl ?_
    refine r_il G (pn := 17) rfl rfl rfl ?_
    refine r_min G (pn := 20) rfl rfl (Nat.le_of_ble_eq_true rfl) ?_
    rw [hmn]
    refine r_ib G (pn := 21) rfl rfl  ?_
    refine r_is G (pn := 23) rfl rfl (Nat.le_of_ble_eq_true rfl) ?_
    refine r_ll G (pn := 24) rfl rfl rfl ?_
    rw [nI_add]
    refine r_ins1 G (pn := 27) rfl rfl (Nat.le_of_ble_eq_true rfl) (Nat.le_of_ble_eq_true rfl) (Nat.le_of_ble_eq_true rfl) (sp_128 (by omega) hw ?_)
    generalize ha : w / 1073741824 = a at hi hj h5 hq hM5 ⊢
    generalize hP : M * (M - 1) / 2 + m9 = P at hq ⊢
    have hPa : P < a * (a - 1) / 2 := by
      have : (M = 1 ∨ M = 2 ∨ M = 3 ∨ M = 4) := by omega
      have : (a = 2 ∨ a = 3 ∨ a = 4 ∨ a = 5) := by omega
      rcases ‹M = 1 ∨ _› with rfl | rfl | rfl | rfl <;> rcases ‹a = 2 ∨ _› with rfl | rfl | rfl | rfl <;> omega
    have hA : a * (a - 1) / 2 ≤ 10 := by
      have : (a = 2 ∨ a = 3 ∨ a = 4 ∨ a = 5) := by omega
      rcases this with rfl | rfl | rfl | rfl <;> decide
    show am_Go (am_KA lx e) (am_fetch cd_130) Q 27 [some (.long (lN w)), none, some (.int (nI i)), some (.int (nI j)), some (.int (nI P)), none] [.int (nI a)] h 0 0
    refine r_ins1 G (pn := 30) rfl rfl (Nat.le_of_ble_eq_true rfl) (Nat.le_of_ble_eq_true rfl) (Nat.le_of_ble_eq_true rfl) (sp_126 (by omega) (by omega) ?_)
    generalize hT : a * (a - 1) / 2 = T at hq hPa hA ⊢
    show am_Go (am_KA lx e) (am_fetch cd_130) Q 30 [some (.long (lN w)), none, some (.int (nI i)), some (.int (nI j)), some (.int (nI P)), none] [.int (nI T)] h 0 0
    refine r_ic G (pn := 31) rfl rfl  ?_
    refine r_ib G (pn := 32) rfl rfl  ?_
    refine r_il G (pn := 34) rfl rfl rfl ?_
    refine r_ib G (pn := 35) rfl rfl  ?_
    refine r_is G (pn := 37) rfl rfl (Nat.le_of_ble_eq_true rfl) ?_
    refine r_ll G (pn := 38) rfl rfl rfl ?_
    refine r_ic G (pn := 39) rfl rfl  ?_
    refine r_il G (pn := 41) rfl rfl rfl ?_
    refine r_ib G (pn := 42) rfl rfl  ?_
    refine r_lsh G (pn := 43) rfl rfl  ?_
    refine r_l2i G (pn := 44) rfl rfl  ?_
    refine r_ic G (pn := 45) rfl rfl  ?_
    refine r_ib G (pn := 46) rfl rfl  ?_
    have e1 : nI T - 1 - nI P = nI (T - 1 - P) := by
      obtain ⟨k, rfl⟩ : ∃ k, T = k + 1 := ⟨T - 1, by omega⟩
      rw [nI_pred, pk_sub (by omega)]
      rfl
    have e2 : (2 : Int32) * nI (T - 1 - P) = nI (2 * (T - 1 - P)) := pk_mul 2 _
    rw [e1, e2, am_shrL (by omega) (by omega), lN_i, am_and3]
    refine r_iret G rfl rfl hq
  · have he : i = j := (nI_eq (by omega) (by omega)).mp (Classical.byContradiction c2)
    rw [if_pos he] at hq
    refine r_ic G (pn := 6) rfl rfl  ?_
    refine r_iret G rfl rfl hq
