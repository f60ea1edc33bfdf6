abbrev mO (m : Nat → Int32) : am_C := .inr (11, [.int (m 0), .ref 82, .int (m 2), .int (m 3), .ref 83, .int (m 5), .ref 84, .ref 85, .ref 86, .ref 87, .int (m 10), .ref 88, .int (m 12), .ref 89, .ref 90, .int (m 15), .ref 91, .ref 92, .int (m 18), .int (m 19), .ref 93, .ref 94, .ref 95, .int (m 23), .int (m 24), .ref 96, .ref 97, .ref 98, .ref 99, .ref 100, .ref 101, .int (m 31), .ref 102, .ref 103, .int (m 34), .ref 104])
section
variable {lx : am_Lx} {d : Nat} {h : am_H} {m : Nat → Int32} {Q : am_Q}
theorem sp_27 (hd : 1 ≤ d) {n : Nat} {f : Nat → Int32} {x : Int32} (hM : h[81]? = some (mO m)) (h2 : h[82]? = some (.inl (.int, 24, .inl f))) (hm : m 2 = nI n) (hn : n ≤ 24)
    (hno : (x < 32 ∨ 126 < x ∨ n = 24) → Q (some (.int 0)) h) (hyes : ¬ x < 32 → ¬ 126 < x → n < 24 → Q (some (.int 1)) ((h.set 82 (.inl (.int, 24, .inl (upd f n x)))).set 81 (mO (upd m 2 (nI (n + 1)))))) : am_KA lx d 27 [.ref 81, .int x] h Q := by
  obtain ⟨e, rfl⟩ : ∃ e, d = e + 1 := ⟨d - 1, by omega⟩
  have G : am_GK (am_KA lx e) cd_27 := ⟨am_KA_m lx e, cm_27⟩
  refine am_KA_in (by decide) (Nat.le_of_ble_eq_true rfl) ?_
  show am_Go (am_KA lx e) (am_fetch cd_27) Q 0 [some (.ref 81), some (.int x)] [] h 0 0
  refine r_il G (pn := 1) rfl rfl rfl ?_
  refine r_ic G (pn := 3) rfl rfl  ?_
  refine r_if2 G (pn := 6) rfl rfl (fun c3 => ?_) (fun c3 => ?_)
  · refine r_ic G (pn := 22) rfl rfl  ?_
    refine r_iret G rfl (by decide) (hno (Or.inl c3))
  · refine r_il G (pn := 7) rfl rfl rfl ?_
    refine r_ic G (pn := 9) rfl rfl  ?_
    refine r_if2 G (pn := 12) rfl rfl (fun c9 => ?_) (fun c9 => ?_)
    · refine r_ic G (pn := 22) rfl rfl  ?_
      refine r_iret G rfl (by decide) (hno (Or.inr (Or.inl c9)))
    · refine r_ra G (pn := 13) rfl rfl rfl ?_
      refine r_get G (pn := 16) rfl rfl (by first | assumption | (repeat (first | assumption | exact am_eq (by first | assumption | exact am_eq (by assumption) | exact am_ne (by first | decide | omega) (by assumption)) | refine am_ne (by first | decide | omega) ?_))) rfl ?_
      refine r_ic G (pn := 18) rfl rfl  ?_
      rw [hm]
      refine r_if2 G (pn := 21) rfl rfl (fun c18 => ?_) (fun c18 => ?_)
      · have hlt : n < 24 := by
          have : ¬ n = 24 := fun q => c18 (by rw [q]; rfl)
          omega
        refine r_ra G (pn := 24) rfl rfl rfl ?_
        refine r_get G (pn := 27) rfl rfl (by first | assumption | (repeat (first | assumption | exact am_eq (by first | assumption | exact am_eq (by assumption) | exact am_ne (by first | decide | omega) (by assumption)) | refine am_ne (by first | decide | omega) ?_))) rfl ?_
        refine r_ra G (pn := 28) rfl rfl rfl ?_
        refine r_get G (pn := 31) rfl rfl (by first | assumption | (repeat (first | assumption | exact am_eq (by first | assumption | exact am_eq (by assumption) | exact am_ne (by first | decide | omega) (by assumption)) | refine am_ne (by first | decide | omega) ?_))) rfl ?_
        rw [hm]
        refine r_il G (pn := 32) rfl rfl rfl ?_
        refine r_iastN G (pn := 33) rfl rfl (by assumption) hlt (by omega) ?_
        refine r_ra G (pn := 34) rfl rfl rfl ?_
        refine r_dup G (pn := 35) rfl rfl rfl ?_
        refine r_get G (pn := 38) rfl rfl (by first | assumption | (repeat (first | assumption | exact am_eq (by first | assumption | exact am_eq (by assumption) | exact am_ne (by first | decide | omega) (by assumption)) | refine am_ne (by first | decide | omega) ?_))) rfl ?_
        rw [hm]
        refine r_ic G (pn := 39) rfl rfl  ?_
        refine r_ib G (pn := 40) rfl rfl  ?_
        rw [nI_1]
        refine r_puti G (pn := 43) rfl rfl (by first | assumption | (repeat (first | assumption | exact am_eq (by first | assumption | exact am_eq (by assumption) | exact am_ne (by first | decide | omega) (by assumption)) | refine am_ne (by first | decide | omega) ?_))) (Nat.le_of_ble_eq_true rfl) ?_
        refine r_ic G (pn := 44) rfl rfl  ?_
        refine r_iret G rfl (by decide) (hyes c3 c9 hlt)
      · have hge : n = 24 := (nI_eq (b := 24) (by omega) (by omega)).mp (Classical.byContradiction c18)
        refine r_ic G (pn := 22) rfl rfl  ?_
        refine r_iret G rfl (by decide) (hno (Or.inr (Or.inr hge)))
theorem sp_28 (hd : 1 ≤ d) {n : Nat} (hM : h[81]? = some (mO m)) (hm : m 2 = nI n) (hn : n ≤ 24)
    (hno : n = 0 → Q (some (.int 0)) h) (hyes : ∀ k, n = k + 1 → Q (some (.int 1)) (h.set 81 (mO (upd m 2 (nI k))))) : am_KA lx d 28 [.ref 81] h Q := by
  obtain ⟨e, rfl⟩ : ∃ e, d = e + 1 := ⟨d - 1, by omega⟩
  have G : am_GK (am_KA lx e) cd_28 := ⟨am_KA_m lx e, cm_28⟩
  refine am_KA_in (by decide) (Nat.le_of_ble_eq_true rfl) ?_
  show am_Go (am_KA lx e) (am_fetch cd_28) Q 0 [some (.ref 81)] [] h 0 0
  refine r_ra G (pn := 1) rfl rfl rfl ?_
  refine r_get G (pn := 4) rfl rfl (by first | assumption | (repeat (first | assumption | exact am_eq (by first | assumption | exact am_eq (by assumption) | exact am_ne (by first | decide | omega) (by assumption)) | refine am_ne (by first | decide | omega) ?_))) rfl ?_
  rw [hm]
  refine r_if1 G (pn := 7) rfl rfl (fun c4 => ?_) (fun c4 => ?_)
  · obtain ⟨k, rfl⟩ : ∃ k, n = k + 1 := ⟨n - 1, by
      have : ¬ n = 0 := fun q => c4 (by rw [q]; rfl)
      omega⟩
    refine r_ra G (pn := 10) rfl rfl rfl ?_
    refine r_dup G (pn := 11) rfl rfl rfl ?_
    refine r_get G (pn := 14) rfl rfl (by first | assumption | (repeat (first | assumption | exact am_eq (by first | assumption | exact am_eq (by assumption) | exact am_ne (by first | decide | omega) (by assumption)) | refine am_ne (by first | decide | omega) ?_))) rfl ?_
    rw [hm]
    refine r_ic G (pn := 15) rfl rfl  ?_
    refine r_ib G (pn := 16) rfl rfl  ?_
    rw [nI_pred]
    refine r_puti G (pn := 19) rfl rfl (by first | assumption | (repeat (first | assumption | exact am_eq (by first | assumption | exact am_eq (by assumption) | exact am_ne (by first | decide | omega) (by assumption)) | refine am_ne (by first | decide | omega) ?_))) (Nat.le_of_ble_eq_true rfl) ?_
    refine r_ic G (pn := 20) rfl rfl  ?_
    refine r_iret G rfl (by decide) (hyes k rfl)
  · have h0 : n = 0 := by
      refine Classical.byContradiction fun q => c4 (nI_ne0 (by omega) (by omega))
    refine r_ic G (pn := 8) rfl rfl  ?_
    refine r_iret G rfl (by decide) (hno h0)
def pcode (x : Int32) : Int32 := if x = 72 then 0 else if x = 79 then 1 else if x = 78 then 2 else if x = 67 then 3 else -1
def plink (x : Int32) : Int32 := if x = 45 then 1 else if x = 61 then 2 else if x = 35 then 3 else 0
theorem sp_29 (hd : 1 ≤ d) {x : Int32} (hq : Q (some (.int (pcode x))) h) : am_KA lx d 29 [.int x] h Q := by
  unfold pcode at hq
  obtain ⟨e, rfl⟩ : ∃ e, d = e + 1 := ⟨d - 1, by omega⟩
  have G : am_GK (am_KA lx e) cd_29 := ⟨am_KA_m lx e, cm_29⟩
  refine am_KA_in (by decide) (Nat.le_of_ble_eq_true rfl) ?_
  show am_Go (am_KA lx e) (am_fetch cd_29) Q 0 [some (.int x)] [] h 0 0
  refine r_il G (pn := 1) rfl rfl rfl ?_
  refine r_ic G (pn := 3) rfl rfl  ?_
  refine r_if2 G (pn := 6) rfl rfl (fun c3 => ?_) (fun c3 => ?_)
  · rw [if_neg c3] at hq
    refine r_il G (pn := 11) rfl rfl rfl ?_
    refine r_ic G (pn := 13) rfl rfl  ?_
    refine r_if2 G (pn := 16) rfl rfl (fun c13 => ?_) (fun c13 => ?_)
    · rw [if_neg c13] at hq
      refine r_il G (pn := 21) rfl rfl rfl ?_
      refine r_ic G (pn := 23) rfl rfl  ?_
      refine r_if2 G (pn := 26) rfl rfl (fun c23 => ?_) (fun c23 => ?_)
      · rw [if_neg c23] at hq
        refine r_il G (pn := 31) rfl rfl rfl ?_
        refine r_ic G (pn := 33) rfl rfl  ?_
        refine r_if2 G (pn := 36) rfl rfl (fun c33 => ?_) (fun c33 => ?_)
        · rw [if_neg c33] at hq
          refine r_ic G (pn := 41) rfl rfl  ?_
          refine r_iret G rfl rfl hq
        · rw [if_pos (Classical.byContradiction c33)] at hq
          refine r_ic G (pn := 37) rfl rfl  ?_
          refine r_goto G rfl ?_
          refine r_iret G rfl rfl hq
      · rw [if_pos (Classical.byContradiction c23)] at hq
        refine r_ic G (pn := 27) rfl rfl  ?_
        refine r_goto G rfl ?_
        refine r_iret G rfl rfl hq
    · rw [if_pos (Classical.byContradiction c13)] at hq
      refine r_ic G (pn := 17) rfl rfl  ?_
      refine r_goto G rfl ?_
      refine r_iret G rfl rfl hq
  · rw [if_pos (Classical.byContradiction c3)] at hq
    refine r_ic G (pn := 7) rfl rfl  ?_
    refine r_goto G rfl ?_
    refine r_iret G rfl rfl hq
theorem sp_30 (hd : 1 ≤ d) {x : Int32} (hq : Q (some (.int (plink x))) h) : am_KA lx d 30 [.int x] h Q := by
  unfold plink at hq
  obtain ⟨e, rfl⟩ : ∃ e, d = e + 1 := ⟨d - 1, by omega⟩
  have G : am_GK (am_KA lx e) cd_30 := ⟨am_KA_m lx e, cm_30⟩
  refine am_KA_in (by decide) (Nat.le_of_ble_eq_true rfl) ?_
  show am_Go (am_KA lx e) (am_fetch cd_30) Q 0 [some (.int x)] [] h 0 0
  refine r_il G (pn := 1) rfl rfl rfl ?_
  refine r_ic G (pn := 3) rfl rfl  ?_
  refine r_if2 G (pn := 6) rfl rfl (fun c3 => ?_) (fun c3 => ?_)
  · rw [if_neg c3] at hq
    refine r_il G (pn := 11) rfl rfl rfl ?_
    refine r_ic G (pn := 13) rfl rfl  ?_
    refine r_if2 G (pn := 16) rfl rfl (fun c13 => ?_) (fun c13 => ?_)
    · rw [if_neg c13] at hq
      refine r_il G (pn := 21) rfl rfl rfl ?_
      refine r_ic G (pn := 23) rfl rfl  ?_
      refine r_if2 G (pn := 26) rfl rfl (fun c23 => ?_) (fun c23 => ?_)
      · rw [if_neg c23] at hq
        refine r_ic G (pn := 31) rfl rfl  ?_
        refine r_iret G rfl rfl hq
      · rw [if_pos (Classical.byContradiction c23)] at hq
        refine r_ic G (pn := 27) rfl rfl  ?_
        refine r_goto G rfl ?_
        refine r_iret G rfl rfl hq
    · rw [if_pos (Classical.byContradiction c13)] at hq
      refine r_ic G (pn := 17) rfl rfl  ?_
      refine r_goto G rfl ?_
      refine r_iret G rfl rfl hq
  · rw [if_pos (Classical.byContradiction c3)] at hq
    refine r_ic G (pn := 7) rfl rfl  ?_
    refine r_goto G rfl ?_
    refine r_iret G rfl rfl hq
theorem sp_41 (hd : 1 ≤ d) {w k : Nat} (hw : w < 2 ^ 48) (hk : k ≤ 15) (hq : Q (some (.int (nI (w / 2 ^ (3 * (15 - k)) % 8)))) h) : am_KA lx d 41 [.long (lN w), .int (nI k)] h Q := by
  obtain ⟨e, rfl⟩ : ∃ e, d = e + 1 := ⟨d - 1, by omega⟩
  have G : am_GK (am_KA lx e) cd_41 := ⟨am_KA_m lx e, cm_41⟩
  refine am_KA_in (by decide) (Nat.le_of_ble_eq_true rfl) ?_
  show am_Go (am_KA lx e) (am_fetch cd_41) Q 0 [some (.long (lN w)), none, some (.int (nI k))] [] h 0 0
  refine r_ll G (pn := 1) rfl rfl rfl ?_
  refine r_ic G (pn := 2) rfl rfl  ?_
  refine r_ic G (pn := 4) rfl rfl  ?_
  refine r_il G (pn := 5) rfl rfl rfl ?_
  refine r_ib G (pn := 6) rfl rfl  ?_
  refine r_ib G (pn := 7) rfl rfl  ?_
  refine r_lsh G (pn := 8) rfl rfl  ?_
  refine r_l2i G (pn := 9) rfl rfl  ?_
  refine r_ic G (pn := 11) rfl rfl  ?_
  refine r_ib G (pn := 12) rfl rfl  ?_
  have e1 : (15 : Int32) - nI k = nI (15 - k) := pk_sub (a := 15) hk
  have e2 : (3 : Int32) * nI (15 - k) = nI (3 * (15 - k)) := pk_mul 3 _
  rw [e1, e2, am_shrL (by omega) (by omega), lN_i, am_and7]
  refine r_iret G rfl rfl hq
/-- the digits of a model's key -/
def mdig (w k : Nat) : Nat := w / 2 ^ (3 * (15 - k)) % 8
theorem mdig_lt (w k : Nat) : mdig w k < 8 := Nat.mod_lt _ (by decide)
def mbond (w i j : Nat) : Nat := if i = j then 0 else mdig w (1 + mdig w 0 + max i j * (max i j - 1) / 2 + min i j)
theorem sp_42 (hd : 2 ≤ d) {w i j : Nat} (hw : w < 2 ^ 48) (hi : i < 5) (hj : j < 5) (h5 : mdig w 0 ≤ 5) (hq : Q (some (.int (nI (mbond w i j)))) h) : am_KA lx d 42 [.long (lN w), .int (nI i), .int (nI j)] h Q := by
  unfold mbond at hq
  have fin : ∀ e, 1 ≤ e → ∀ (lo hi9 : Nat), lo = min i j → hi9 = max i j → am_Go (am_KA lx e) (am_fetch cd_42) Q 24 [some (.long (lN w)), none, some (.int (nI i)), some (.int (nI j)), some (.int (nI lo)), some (.int (nI hi9))] [] h 0 0 := by
    intro e he lo hi9 hlo hhi
    have G : am_GK (am_KA lx e) cd_42 := ⟨am_KA_m lx e, cm_42⟩
    refine r_il G (pn := 26) rfl rfl rfl ?_
    refine r_il G (pn := 28) rfl rfl rfl ?_
    refine r_if2 G (pn := 31) rfl rfl (fun c28 => ?_) (fun c28 => ?_)
    · have hne : ¬ i = j := fun q => c28 (congrArg nI (by omega))
      rw [if_neg hne, ← hlo, ← hhi] at hq
      refine r_ll G (pn := 36) rfl rfl rfl ?_
      refine r_ic G (pn := 37) rfl rfl  ?_
      refine r_ll G (pn := 38) rfl rfl rfl ?_
      refine r_ic G (pn := 39) rfl rfl  ?_
      refine r_ins2 G (pn := 42) rfl rfl (Nat.le_of_ble_eq_true rfl) (Nat.le_of_ble_eq_true rfl) (Nat.le_of_ble_eq_true rfl) (sp_41 (k := 0) he hw (by omega) ?_)
      change am_Go (am_KA lx e) (am_fetch cd_42) Q 42 [some (.long (lN w)), none, some (.int (nI i)), some (.int (nI j)), some (.int (nI lo)), some (.int (nI hi9))] [.int (nI (mdig w 0)), .int 1, .long (lN w)] h 0 0
      generalize mdig w 0 = a at h5 hq ⊢
      refine r_ib G (pn := 43) rfl rfl  ?_
      refine r_il G (pn := 45) rfl rfl rfl ?_
      refine r_il G (pn := 47) rfl rfl rfl ?_
      refine r_ic G (pn := 48) rfl rfl  ?_
      refine r_ib G (pn := 49) rfl rfl  ?_
      refine r_ib G (pn := 50) rfl rfl  ?_
      refine r_ic G (pn := 51) rfl rfl  ?_
      have h2 : ¬ (2 : Int32) = 0 := by decide
      have e1 : nI hi9 * (nI hi9 - 1) / 2 = nI (hi9 * (hi9 - 1) / 2) := by
        have : hi9 = 0 ∨ hi9 = 1 ∨ hi9 = 2 ∨ hi9 = 3 ∨ hi9 = 4 := by omega
        rcases this with q | q | q | q | q <;> rw [q] <;> decide
      refine r_idiv G (pn := 52) rfl rfl (by assumption) ?_
      rw [e1]
      refine r_ib G (pn := 53) rfl rfl  ?_
      refine r_il G (pn := 55) rfl rfl rfl ?_
      refine r_ib G (pn := 56) rfl rfl  ?_
      have hT : hi9 * (hi9 - 1) / 2 ≤ 6 := by
        have : hi9 = 0 ∨ hi9 = 1 ∨ hi9 = 2 ∨ hi9 = 3 ∨ hi9 = 4 := by omega
        rcases this with q | q | q | q | q <;> rw [q] <;> decide
      generalize hi9 * (hi9 - 1) / 2 = T at hT hq ⊢
      rw [show (1 : Int32) + nI a = nI (1 + a) from nI_add 1 a, nI_add, nI_add]
      refine r_ins2 G (pn := 59) rfl rfl (Nat.le_of_ble_eq_true rfl) (Nat.le_of_ble_eq_true rfl) (Nat.le_of_ble_eq_true rfl) (sp_41 he hw (by omega) ?_)
      refine r_iret G rfl rfl hq
    · have he9 : i = j := by
        have := (nI_eq (a := lo) (b := hi9) (by omega) (by omega)).mp (Classical.byContradiction c28)
        omega
      rw [if_pos he9] at hq
      refine r_ic G (pn := 32) rfl rfl  ?_
      refine r_goto G rfl ?_
      refine r_iret G rfl rfl hq
  obtain ⟨e, rfl⟩ : ∃ e, d = e + 1 := ⟨d - 1, by omega⟩
  have G : am_GK (am_KA lx e) cd_42 := ⟨am_KA_m lx e, cm_42⟩
  refine am_KA_in (by decide) (Nat.le_of_ble_eq_true rfl) ?_
  show am_Go (am_KA lx e) (am_fetch cd_42) Q 0 [some (.long (lN w)), none, some (.int (nI i)), some (.int (nI j)), none, none] [] h 0 0
  refine r_il G (pn := 1) rfl rfl rfl ?_
  refine r_il G (pn := 2) rfl rfl rfl ?_
  refine r_if2 G (pn := 5) rfl rfl (fun c2 => ?_) (fun c2 => ?_)
  · have q : j ≤ i := (nI_leI (by omega) (by omega)).mp c2
    refine r_il G (pn := 10) rfl rfl rfl ?_
    refine r_is G (pn := 12) rfl rfl (Nat.le_of_ble_eq_true rfl) ?_
    refine r_il G (pn := 13) rfl rfl rfl ?_
    refine r_il G (pn := 14) rfl rfl rfl ?_
    refine r_if2 G (pn := 17) rfl rfl (fun c14 => ?_) (fun c14 => ?_)
    · refine r_il G (pn := 22) rfl rfl rfl ?_
      refine r_is G (pn := 24) rfl rfl (Nat.le_of_ble_eq_true rfl) ?_
      exact fin e (by omega) j i (by omega) (by omega)
    · exact absurd c2 c14
  · have q : ¬ j ≤ i := fun z => c2 ((nI_leI (by omega) (by omega)).mpr z)
    refine r_il G (pn := 6) rfl rfl rfl ?_
    refine r_goto G rfl ?_
    refine r_is G (pn := 12) rfl rfl (Nat.le_of_ble_eq_true rfl) ?_
    refine r_il G (pn := 13) rfl rfl rfl ?_
    refine r_il G (pn := 14) rfl rfl rfl ?_
    refine r_if2 G (pn := 17) rfl rfl (fun c14 => ?_) (fun c14 => ?_)
    · exact absurd c14 c2
    · refine r_il G (pn := 18) rfl rfl rfl ?_
      refine r_goto G rfl ?_
      refine r_is G (pn := 24) rfl rfl (Nat.le_of_ble_eq_true rfl) ?_
      exact fin e (by omega) i j (by omega) (by omega)
theorem sp_43 (hd : 1 ≤ d) (hM : h[81]? = some (mO m)) (hq : Q (some (.int (m 3))) h) : am_KA lx d 43 [.ref 81] h Q := by
  obtain ⟨e, rfl⟩ : ∃ e, d = e + 1 := ⟨d - 1, by omega⟩
  have G : am_GK (am_KA lx e) cd_43 := ⟨am_KA_m lx e, cm_43⟩
  refine am_KA_in (by decide) (Nat.le_of_ble_eq_true rfl) ?_
  show am_Go (am_KA lx e) (am_fetch cd_43) Q 0 [some (.ref 81)] [] h 0 0
  refine r_ra G (pn := 1) rfl rfl rfl ?_
  refine r_get G (pn := 4) rfl rfl (by first | assumption | (repeat (first | assumption | exact am_eq (by first | assumption | exact am_eq (by assumption) | exact am_ne (by first | decide | omega) (by assumption)) | refine am_ne (by first | decide | omega) ?_))) rfl ?_
  refine r_iret G rfl rfl hq
theorem sp_68 (hd : 1 ≤ d) (hM : h[81]? = some (mO m)) (hq : Q (some (.int (m 10))) h) : am_KA lx d 68 [.ref 81] h Q := by
  obtain ⟨e, rfl⟩ : ∃ e, d = e + 1 := ⟨d - 1, by omega⟩
  have G : am_GK (am_KA lx e) cd_68 := ⟨am_KA_m lx e, cm_68⟩
  refine am_KA_in (by decide) (Nat.le_of_ble_eq_true rfl) ?_
  show am_Go (am_KA lx e) (am_fetch cd_68) Q 0 [some (.ref 81)] [] h 0 0
  refine r_ra G (pn := 1) rfl rfl rfl ?_
  refine r_get G (pn := 4) rfl rfl (by first | assumption | (repeat (first | assumption | exact am_eq (by first | assumption | exact am_eq (by assumption) | exact am_ne (by first | decide | omega) (by assumption)) | refine am_ne (by first | decide | omega) ?_))) rfl ?_
  refine r_iret G rfl rfl hq
theorem sp_44 (hd : 1 ≤ d) {x : Int32} (hM : h[81]? = some (mO m)) (hno : (x < 0 ∨ m 3 ≤ x) → Q (some (.int 0)) h) (hyes : ¬ x < 0 → ¬ m 3 ≤ x → Q (some (.int 1)) h) : am_KA lx d 44 [.ref 81, .int x] h Q := by
  obtain ⟨e, rfl⟩ : ∃ e, d = e + 1 := ⟨d - 1, by omega⟩
  have G : am_GK (am_KA lx e) cd_44 := ⟨am_KA_m lx e, cm_44⟩
  refine am_KA_in (by decide) (Nat.le_of_ble_eq_true rfl) ?_
  show am_Go (am_KA lx e) (am_fetch cd_44) Q 0 [some (.ref 81), some (.int x)] [] h 0 0
  refine r_il G (pn := 1) rfl rfl rfl ?_
  refine r_if1 G (pn := 4) rfl rfl (fun c1 => ?_) (fun c1 => ?_)
  · refine r_ic G (pn := 17) rfl rfl  ?_
    refine r_iret G rfl (by decide) (hno (Or.inl c1))
  · refine r_il G (pn := 5) rfl rfl rfl ?_
    refine r_ra G (pn := 6) rfl rfl rfl ?_
    refine r_get G (pn := 9) rfl rfl (by first | assumption | (repeat (first | assumption | exact am_eq (by first | assumption | exact am_eq (by assumption) | exact am_ne (by first | decide | omega) (by assumption)) | refine am_ne (by first | decide | omega) ?_))) rfl ?_
    refine r_if2 G (pn := 12) rfl rfl (fun c9 => ?_) (fun c9 => ?_)
    · refine r_ic G (pn := 17) rfl rfl  ?_
      refine r_iret G rfl (by decide) (hno (Or.inr c9))
    · refine r_ic G (pn := 13) rfl rfl  ?_
      refine r_goto G rfl ?_
      refine r_iret G rfl (by decide) (hyes c1 c9)
theorem sp_45_no (hd : 3 ≤ d) {x : Int32} (hM : h[81]? = some (mO m)) (hx : x < 0 ∨ m 3 ≤ x) (hq : Q (some (.int (-1))) h) : am_KA lx d 45 [.ref 81, .int x] h Q := by
  obtain ⟨e, rfl⟩ : ∃ e, d = e + 1 := ⟨d - 1, by omega⟩
  have G : am_GK (am_KA lx e) cd_45 := ⟨am_KA_m lx e, cm_45⟩
  refine am_KA_in (by decide) (Nat.le_of_ble_eq_true rfl) ?_
  show am_Go (am_KA lx e) (am_fetch cd_45) Q 0 [some (.ref 81), some (.int x)] [] h 0 0
  refine r_ra G (pn := 1) rfl rfl rfl ?_
  refine r_il G (pn := 2) rfl rfl rfl ?_
  refine r_inv2 G (pn := 5) rfl rfl (by first | assumption | (repeat (first | assumption | exact am_eq (by first | assumption | exact am_eq (by assumption) | exact am_ne (by first | decide | omega) (by assumption)) | refine am_ne (by first | decide | omega) ?_))) (Nat.le_of_ble_eq_true rfl) (Nat.le_of_ble_eq_true rfl) (Nat.le_of_ble_eq_true rfl) (sp_44 (by omega) hM (fun _ => ?_) (fun a b => (hx.elim a b).elim))
  show am_Go (am_KA lx e) (am_fetch cd_45) Q 5 [some (.ref 81), some (.int x)] [.int 0] h 0 0
  refine r_if1 G (pn := 8) rfl rfl (fun c5 => ?_) (fun c5 => ?_)
  · refine r_ic G (pn := 22) rfl rfl  ?_
    refine r_iret G rfl rfl hq
  · exact absurd rfl c5
end
