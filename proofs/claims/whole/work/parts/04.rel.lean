/-! What an abstract state is of a machine's. -/
def am_cv (S : Nat → Nat) (B : Nat) (v : Value) : Value := match v with
  | .ref k => .ref (B + k)
  | .float u => .ref (S u.toNat)
  | x => x
theorem am_cv_cat (S : Nat → Nat) (B : Nat) (v : Value) : (am_cv S B v).category = v.category := by cases v <;> rfl
def am_ca (B : Nat) (a : vp_A) : vp_A := match a with
  | (n, .inr (.inr (.inr (.inr f)))) => (n, .inr (.inr (.inr (.inr (fun j => (f j).map (fun k => B + k))))))
  | x => x
def am_cc (cA : FieldType → ClassId) (S : Nat → Nat) (B : Nat) (e : am_C) : va_E := match e with
  | .inl (ty, a) => .inl (cA ty, am_ca B a)
  | .inr (ci, fs) => .inr (ci, fs.map (am_cv S B))
def am_conc (cA : FieldType → ClassId) (S : Nat → Nat) (B : Nat) (h : am_H) : va_W := h.zipIdx.map (fun q => (B + q.2, am_cc cA S B q.1))
theorem am_conc_at (cA : FieldType → ClassId) (S : Nat → Nat) (B : Nat) (h : am_H) (k : Nat) : (am_conc cA S B h)[k]? = h[k]?.map (fun e => (B + k, am_cc cA S B e)) := by
  unfold am_conc
  rw [List.getElem?_map, List.getElem?_zipIdx]
  cases h[k]? <;> simp
theorem am_conc_some {cA : FieldType → ClassId} {S : Nat → Nat} {B : Nat} {h : am_H} {k : Nat} {e : am_C} (hk : h[k]? = some e) : (am_conc cA S B h)[k]? = some (B + k, am_cc cA S B e) := by
  rw [am_conc_at, hk]; rfl
theorem am_conc_set (cA : FieldType → ClassId) (S : Nat → Nat) (B : Nat) (h : am_H) (k : Nat) (e : am_C) : (am_conc cA S B h).set k (B + k, am_cc cA S B e) = am_conc cA S B (h.set k e) := by
  apply List.ext_getElem?
  intro j
  rw [am_conc_at, List.getElem?_set, List.getElem?_set]
  have hlen : (am_conc cA S B h).length = h.length := by simp [am_conc]
  rw [hlen]
  by_cases hj : k = j
  · subst hj
    by_cases hl : k < h.length <;> simp [hl]
  · simp [hj, am_conc_at]
theorem am_conc_app (cA : FieldType → ClassId) (S : Nat → Nat) (B : Nat) (h h2 : am_H) : am_conc cA S B (h ++ h2) = am_conc cA S B h ++ (h2.zipIdx h.length).map (fun q => (B + q.2, am_cc cA S B q.1)) := by
  unfold am_conc
  rw [List.zipIdx_append, List.map_append]
  simp
theorem am_conc_D (cA : FieldType → ClassId) (S : Nat → Nat) (B : Nat) (h : am_H) : va_D (fun q => B ≤ q) (am_conc cA S B h) := by
  refine ⟨fun i j p q hi hj hpq => ?_, fun k q hk => ?_⟩
  · rw [am_conc_at] at hi hj
    cases h1 : h[i]? with
    | none => rw [h1] at hi; cases hi
    | some x =>
      cases h2 : h[j]? with
      | none => rw [h2] at hj; cases hj
      | some y =>
        rw [h1] at hi; rw [h2] at hj
        cases hi; cases hj
        have : B + i = B + j := hpq
        omega
  · rw [am_conc_at] at hk
    cases h1 : h[k]? with
    | none => rw [h1] at hk; cases hk
    | some x =>
      rw [h1] at hk
      cases hk
      exact Nat.le_add_right B k
def am_R (D : va_G) (cl : List vw_C) (cA : FieldType → ClassId) (S : Nat → Nat) (H0 : Heap) (h : am_H) (H : Heap) : Prop := H.size = H0.size + h.length ∧ (∀ q : Nat, q < H0.size → H[q]? = H0[q]?) ∧ va_P D cl (am_conc cA S H0.size h) H
/-- locals -/
def am_lv (S : Nat → Nat) (B : Nat) (lsA : Array Slot) (nL : Nat) (ls : am_L) : Prop := lsA.size = nL ∧ ls.length = nL ∧ lv_wf lsA ∧ ∀ (i : Nat) (v : Value), ls[i]? = some (some v) → lsA[i]? = some (.val (am_cv S B v))
def am_lst (S : Nat → Nat) (B : Nat) (ls : am_L) : List (Nat × Value) := ls.zipIdx.filterMap (fun q => q.1.map (fun v => (q.2, am_cv S B v)))
theorem am_lst_mem {S : Nat → Nat} {B : Nat} {ls : am_L} {i : Nat} {w : Value} : (i, w) ∈ am_lst S B ls ↔ ∃ v, ls[i]? = some (some v) ∧ w = am_cv S B v := by
  unfold am_lst
  rw [List.mem_filterMap]
  constructor
  · rintro ⟨⟨o, j⟩, hm, hv⟩
    cases o with
    | none => cases hv
    | some v =>
      have hv : (j, am_cv S B v) = (i, w) := by simpa using hv
      obtain ⟨rfl, rfl⟩ := Prod.mk.inj hv
      exact ⟨v, by simpa using List.mem_zipIdx_iff_getElem?.mp hm, rfl⟩
  · rintro ⟨v, hv, rfl⟩
    exact ⟨(some v, i), List.mem_zipIdx_iff_getElem?.mpr (by simpa using hv), by simp⟩
theorem am_lv.has {S : Nat → Nat} {B : Nat} {lsA : Array Slot} {nL : Nat} {ls : am_L} (h : am_lv S B lsA nL ls) : lv_has lsA nL (am_lst S B ls) := by
  refine ⟨h.1, h.2.2.1, fun q hq => ?_⟩
  obtain ⟨v, hv, e⟩ := am_lst_mem.mp (show (q.1, q.2) ∈ _ from hq)
  rw [e]
  exact h.2.2.2 _ _ hv
theorem am_al_some {ls : am_L} {i : Nat} {v : Value} (h : am_al ls i = some v) : ls[i]? = some (some v) := by
  unfold am_al at h
  rw [List.getD_eq_getElem?_getD] at h
  cases h1 : ls[i]? with
  | none => rw [h1] at h; cases h
  | some o => rw [h1] at h; exact congrArg some h
theorem am_lv.at {S : Nat → Nat} {B : Nat} {lsA : Array Slot} {nL : Nat} {ls : am_L} (h : am_lv S B lsA nL ls) {i : Nat} {v : Value} (hv : am_al ls i = some v) : lsA[i]? = some (.val (am_cv S B v)) := h.2.2.2 _ _ (am_al_some hv)
theorem am_kl_some {d : Option Value} {v : Value} (h : am_kl d = some v) : d = some v ∧ ¬ v.category = 2 := by
  unfold am_kl at h
  split at h
  · cases h
  · cases h
  · next h1 h2 =>
    subst h
    refine ⟨rfl, ?_⟩
    cases v <;> simp_all [Value.category]
theorem am_lv.s1 {S : Nat → Nat} {B : Nat} {lsA ls' : Array Slot} {nL : Nat} {ls : am_L} {i : Nat} {v : Value} (hn : i < nL) (h : am_lv S B lsA nL ls) (g : lv_has ls' nL ((i, am_cv S B v) :: (am_lst S B ls).filter (fun q => !(q.1 == i) && !(q.1 + 1 == i && q.2.category == 2)))) : am_lv S B ls' nL (am_s1 ls i v) := by
  refine ⟨g.1, by simp [am_s1, h.2.1], g.2.1, fun j w hj => ?_⟩
  by_cases e : j = i
  · subst e
    unfold am_s1 at hj
    rw [List.getElem?_set_self (by simp [h.2.1, hn])] at hj
    cases hj
    exact g.2.2 _ List.mem_cons_self
  · unfold am_s1 at hj
    rw [List.getElem?_set_ne (fun q => e q.symm)] at hj
    refine g.2.2 (j, am_cv S B w) (List.mem_cons_of_mem _ (List.mem_filter.mpr ?_))
    by_cases e2 : j + 1 = i
    · have e3 : i - 1 = j := by omega
      have hjl : j < ls.length := by rw [h.2.1]; omega
      rw [e3, List.getElem?_set_self hjl] at hj
      obtain ⟨k1, k2⟩ := am_kl_some (Option.some.inj hj)
      refine ⟨am_lst_mem.mpr ⟨w, am_al_some k1, rfl⟩, ?_⟩
      simp [e, am_cv_cat, k2]
    · by_cases e4 : i - 1 = j
      · exact absurd (show j = i by omega) e
      · rw [List.getElem?_set_ne e4] at hj
        refine ⟨am_lst_mem.mpr ⟨w, hj, rfl⟩, ?_⟩
        simp [e, e2]
theorem am_lv.s2 {S : Nat → Nat} {B : Nat} {lsA ls' : Array Slot} {nL : Nat} {ls : am_L} {i : Nat} {v : Value} (hn : i + 1 < nL) (h : am_lv S B lsA nL ls) (g : lv_has ls' nL ((i, am_cv S B v) :: (am_lst S B ls).filter (fun q => !(q.1 == i) && (!(q.1 == i + 1) && !(q.1 + 1 == i && q.2.category == 2))))) : am_lv S B ls' nL (am_s2 ls i v) := by
  refine ⟨g.1, by simp [am_s2, h.2.1], g.2.1, fun j w hj => ?_⟩
  unfold am_s2 at hj
  by_cases e0 : j = i + 1
  · subst e0
    rw [List.getElem?_set_self (by simp [h.2.1, hn])] at hj
    cases hj
  · rw [List.getElem?_set_ne (fun q => e0 q.symm)] at hj
    by_cases e : j = i
    · subst e
      rw [List.getElem?_set_self (by simp [h.2.1]; omega)] at hj
      cases hj
      exact g.2.2 _ List.mem_cons_self
    · rw [List.getElem?_set_ne (fun q => e q.symm)] at hj
      refine g.2.2 (j, am_cv S B w) (List.mem_cons_of_mem _ (List.mem_filter.mpr ?_))
      by_cases e2 : j + 1 = i
      · have e3 : i - 1 = j := by omega
        have hjl : j < ls.length := by rw [h.2.1]; omega
        rw [e3, List.getElem?_set_self hjl] at hj
        obtain ⟨k1, k2⟩ := am_kl_some (Option.some.inj hj)
        refine ⟨am_lst_mem.mpr ⟨w, am_al_some k1, rfl⟩, ?_⟩
        simp [e, e0, am_cv_cat, k2]
      · by_cases e4 : i - 1 = j
        · exact absurd (show j = i by omega) e
        · rw [List.getElem?_set_ne e4] at hj
          refine ⟨am_lst_mem.mpr ⟨w, hj, rfl⟩, ?_⟩
          simp [e, e0, e2]
/-- the entry -/
theorem am_ent_args (S : Nat → Nat) (B : Nat) : ∀ (As : List Value) (n i : Nat) (v : Value), (am_ent As)[i]? = some (some v) → (n + i, am_cv S B v) ∈ lv_args n (As.map (am_cv S B))
  | [], n, i, v, h => by simp [am_ent] at h
  | a :: As, n, i, v, h => by
    unfold am_ent at h
    show _ ∈ (n, am_cv S B a) :: lv_args (if (am_cv S B a).category = 2 then n + 2 else n + 1) (As.map (am_cv S B))
    rw [am_cv_cat]
    by_cases hc : a.category = 2
    · rw [if_pos hc] at h
      rw [if_pos hc]
      match i, h with
      | 0, h => cases h; exact List.mem_cons_self
      | 1, h => cases h
      | i + 2, h =>
        refine List.mem_cons_of_mem _ ?_
        have := am_ent_args S B As (n + 2) i v h
        rw [show n + (i + 2) = n + 2 + i by omega]
        exact this
    · rw [if_neg hc] at h
      rw [if_neg hc]
      match i, h with
      | 0, h => cases h; exact List.mem_cons_self
      | i + 1, h =>
        refine List.mem_cons_of_mem _ ?_
        have := am_ent_args S B As (n + 1) i v h
        rw [show n + (i + 1) = n + 1 + i by omega]
        exact this
theorem am_ent_len (S : Nat → Nat) (B : Nat) : ∀ (As : List Value), (lg_sl (As.map (am_cv S B))).length = (am_ent As).length
  | [] => rfl
  | a :: As => by
    have ih := am_ent_len S B As
    unfold lg_sl at ih ⊢
    rw [List.map_cons, List.flatMap_cons, List.length_append, ih, show am_ent (a :: As) = (if a.category = 2 then some a :: none :: am_ent As else some a :: am_ent As) from rfl]
    rw [am_cv_cat]
    by_cases hc : a.category = 2
    · simp [hc]; omega
    · simp [hc]; omega
