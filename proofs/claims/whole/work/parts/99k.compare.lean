theorem sm_le_of {n : Nat} {f g rho : Nat → Nat} (h1 : ∀ q, q < n → rho q < n) (h2 : ∀ p q, p < n → q < n → rho p = rho q → p = q) (e : ∀ j, j < n → f j = g (rho j)) : sm f n ≤ sm g n := by
  rw [sm_congr e]
  exact sm_inj (f := g) h1 h2
/-- a good mixture, its atoms numbered otherwise -/
theorem Good.map {n cap k : Nat} {cd cd' w b pi rho : Nat → Nat} {od od' : Nat → Nat → Nat} (p1 : ∀ x, x < n → pi x < n ∧ rho (pi x) = x) (p2 : ∀ x, x < n → rho x < n ∧ pi (rho x) = x) (ec : ∀ x, x < n → cd' (pi x) = cd x) (eo : ∀ x y, x < n → y < n → od' (pi x) (pi y) = od x y) (h : Good n cd od cap k w b) : Good n cd' od' cap k w b := by
  have pinj : ∀ x y, x < n → y < n → pi x = pi y → x = y := fun x y hx hy e => by rw [← (p1 x hx).2, ← (p1 y hy).2, e]
  have rinj : ∀ x y, x < n → y < n → rho x = rho y → x = y := fun x y hx hy e => by rw [← (p2 x hx).2, ← (p2 y hy).2, e]
  obtain ⟨hl, R, r1, r2, r3, r4⟩ := h
  have fw : ∀ x y, x < n → Rch n od x y → Rch n od' (pi x) (pi y) := by
    intro x y hx hr S hS sx
    exact (hr (fun z => z < n ∧ S (pi z)) (fun i j hi hj si hij => ⟨hj, hS (pi i) (pi j) (p1 i hi).1 (p1 j hj).1 si.2 (by rw [eo i j hi hj]; exact hij)⟩) ⟨hx, sx⟩).2
  have bw : ∀ x y, x < n → y < n → Rch n od' (pi x) (pi y) → Rch n od x y := by
    intro x y hx hy hr S hS sx
    have := hr (fun z => z < n ∧ S (rho z)) (fun i j hi hj si hij => ⟨hj, hS (rho i) (rho j) (p2 i hi).1 (p2 j hj).1 si.2 (by rw [← eo _ _ (p2 i hi).1 (p2 j hj).1, (p2 i hi).2, (p2 j hj).2]; exact hij)⟩) ⟨(p1 x hx).1, by rw [(p1 x hx).2]; exact sx⟩
    rw [(p1 y hy).2] at this
    exact this.2
  refine ⟨fun x hx => ?_, fun i => pi (R i), fun i hi => (p1 _ (r1 i hi)).1, fun i j hi hj hr => r2 i j hi hj (bw _ _ (r1 i hi) (r1 j hj) hr), fun x hx => ?_, fun i hi => ?_⟩
  · obtain ⟨a1, a2⟩ := p2 x hx
    have := hl (rho x) a1
    have e1 := ec (rho x) a1
    rw [a2] at e1
    rw [e1]
    refine Nat.le_trans (sm_le_of (f := od' x) (g := od (rho x)) (rho := rho) (fun q hq => (p2 q hq).1) rinj (fun j hj => ?_)) this
    have := eo (rho x) (rho j) a1 (p2 j hj).1
    rw [a2, (p2 j hj).2] at this
    exact this
  · obtain ⟨a1, a2⟩ := p2 x hx
    obtain ⟨i, hi, hr⟩ := r3 (rho x) a1
    refine ⟨i, hi, ?_⟩
    have := fw _ _ (r1 i hi) hr
    rw [a2] at this
    exact this
  · obtain ⟨J, cnt, c1, c2, s, hs, hw, hb, hm⟩ := r4 i hi
    have jn : ∀ q, q < cnt → J q < n := fun q hq => (c1.1 q hq).1
    have we : ∀ t : Nat → Nat, Pm cnt t → WC cd' od' (fun q => pi (J (t q))) cnt = WC cd od (fun q => J (t q)) cnt ∧ WM cd' od' (fun q => pi (J (t q))) cnt = WM cd od (fun q => J (t q)) cnt := fun t ht => WC_eq (fun q hq => ec _ (jn _ (ht.1 q hq))) (fun a b' hab hb' => eo _ _ (jn _ (ht.1 a (by omega))) (jn _ (ht.1 b' hb')))
    refine ⟨fun q => pi (J q), cnt, ⟨fun q hq => ⟨(p1 _ (jn q hq)).1, fw _ _ (r1 i hi) (c1.1 q hq).2⟩, fun p q hp hq e => c1.2.1 p q hp hq (pinj _ _ (jn p hp) (jn q hq) e), fun x hx hr => ?_⟩, c2, s, hs, by rw [(we s hs).1]; exact hw, by rw [(we s hs).2]; exact hb, fun t ht => by rw [(we t ht).1]; exact hm t ht⟩
    obtain ⟨a1, a2⟩ := p2 x hx
    obtain ⟨q, q1, q2⟩ := c1.2.2 (rho x) a1 (bw _ _ (r1 i hi) a1 (by rw [a2]; exact hr))
    exact ⟨q, q1, by show pi (J q) = x; rw [q2, a2]⟩
/-- a molecule by itself -/
theorem one_good {cap w b : Nat} (h5 : cap ≤ 5) (h : Mol cap w b) : Good (wN w) (wC w) (wO w) cap 1 (fun _ => w) (fun _ => b) := by
  obtain ⟨h1, h2, -, -, -, hv, hx, hw, hb, hm⟩ := h.w h5
  refine ⟨hv, fun _ => 0, fun i hi => h1, fun i j hi hj _ => by omega, fun x hxn => ⟨0, by omega, fun S hS s0 => hx S hS 0 x (by omega) hxn s0⟩, fun i hi => ⟨id, wN w, ⟨fun q hq => ⟨hq, fun S hS s0 => hx S hS 0 q (by omega) hq s0⟩, fun p q _ _ e => e, fun x hxn _ => ⟨x, hxn, rfl⟩⟩, h2, id, Pm.id, hw, hb, hm⟩⟩
/-- two side by side -/
theorem two_good {cap w b v b' : Nat} (h5 : cap ≤ 5) (h : Mol cap w b) (h' : Mol cap v b') : Good (wN w + wN v) (mxC (wN w) (wC w) (wC v)) (mxO (wN w) (wO w) (wO v)) cap 2 (fun i => if i = 0 then w else v) (fun i => if i = 0 then b else b') := by
  obtain ⟨h1, h2, -, -, -, hv, hx, hw, hb, hm⟩ := h.w h5
  obtain ⟨k1, k2, -, -, -, kv, kx, kw, kb, km⟩ := h'.w h5
  have oA : ∀ i j, i < wN w → j < wN w → mxO (wN w) (wO w) (wO v) i j = wO w i j := fun i j hi hj => if_pos ⟨hi, hj⟩
  have oB : ∀ i j, mxO (wN w) (wO w) (wO v) (wN w + i) (wN w + j) = wO v i j := fun i j => by
    unfold mxO
    rw [if_neg (by omega), if_pos (by omega), Nat.add_sub_cancel_left, Nat.add_sub_cancel_left]
  have oX : ∀ i j, mxO (wN w) (wO w) (wO v) i j ≠ 0 → (i < wN w ↔ j < wN w) := fun i j hne => by
    unfold mxO at hne
    by_cases z1 : i < wN w ∧ j < wN w
    · omega
    · rw [if_neg z1] at hne
      by_cases z2 : wN w ≤ i ∧ wN w ≤ j
      · omega
      · rw [if_neg z2] at hne
        exact absurd rfl hne
  have cA : ∀ i, i < wN w → mxC (wN w) (wC w) (wC v) i = wC w i := fun i hi => if_pos hi
  have cB : ∀ i, mxC (wN w) (wC w) (wC v) (wN w + i) = wC v i := fun i => by
    unfold mxC
    rw [if_neg (by omega), Nat.add_sub_cancel_left]
  have rA : ∀ x, x < wN w → Rch (wN w + wN v) (mxO (wN w) (wO w) (wO v)) 0 x := fun x hxn S hS s0 => hx S (fun i j hi hj si hij => hS i j (by omega) (by omega) si (by rw [oA i j hi hj]; exact hij)) 0 x (by omega) hxn s0
  have rB : ∀ x, x < wN v → Rch (wN w + wN v) (mxO (wN w) (wO w) (wO v)) (wN w) (wN w + x) := fun x hxn S hS s0 => kx (fun y => S (wN w + y)) (fun i j hi hj si hij => hS _ _ (by omega) (by omega) si (by rw [oB i j]; exact hij)) 0 x (by omega) hxn s0
  have sA : ∀ x, Rch (wN w + wN v) (mxO (wN w) (wO w) (wO v)) 0 x → x < wN w := fun x hr => hr (fun y => y < wN w) (fun i j _ _ si hij => (oX i j hij).mp si) (by omega)
  have sB : ∀ x, Rch (wN w + wN v) (mxO (wN w) (wO w) (wO v)) (wN w) x → ¬ x < wN w := fun x hr => hr (fun y => ¬ y < wN w) (fun i j _ _ si hij y => si ((oX i j hij).mpr y)) (by omega)
  refine ⟨px_load (ow := some v) h5 h (fun u hu => by cases hu; exact ⟨b', h'⟩), fun i => if i = 0 then 0 else wN w, fun i hi => ?_, fun i j hi hj hr => ?_, fun x hxn => ?_, fun i hi => ?_⟩
  · show (if i = 0 then 0 else wN w) < wN w + wN v
    split <;> omega
  · have hr : Rch (wN w + wN v) (mxO (wN w) (wO w) (wO v)) (if i = 0 then 0 else wN w) (if j = 0 then 0 else wN w) := hr
    rcases (show i = 0 ∨ i = 1 by omega) with z | z
    · rcases (show j = 0 ∨ j = 1 by omega) with y | y
      · omega
      · rw [if_pos z, if_neg (by omega)] at hr
        have := sA _ hr
        omega
    · rcases (show j = 0 ∨ j = 1 by omega) with y | y
      · rw [if_neg (by omega), if_pos y] at hr
        exact absurd (show 0 < wN w by omega) (sB _ hr)
      · omega
  · by_cases z : x < wN w
    · exact ⟨0, by omega, rA x z⟩
    · have := rB (x - wN w) (by omega)
      rw [show wN w + (x - wN w) = x by omega] at this
      exact ⟨1, by omega, this⟩
  · rcases (show i = 0 ∨ i = 1 by omega) with z | z
    · subst z
      have we : ∀ t : Nat → Nat, Pm (wN w) t → WC (mxC (wN w) (wC w) (wC v)) (mxO (wN w) (wO w) (wO v)) (fun q => id (t q)) (wN w) = WC (wC w) (wO w) t (wN w) ∧ WM (mxC (wN w) (wC w) (wC v)) (mxO (wN w) (wO w) (wO v)) (fun q => id (t q)) (wN w) = WM (wC w) (wO w) t (wN w) := fun t ht => WC_eq (fun q hq => cA _ (ht.1 q hq)) (fun a c hac hc => oA _ _ (ht.1 a (by omega)) (ht.1 c hc))
      exact ⟨id, wN w, ⟨fun q hq => ⟨by show q < _; omega, rA q hq⟩, fun p q _ _ e => e, fun x hxn hr => ⟨x, sA x hr, rfl⟩⟩, h2, id, Pm.id, hw.trans (we id Pm.id).1.symm, hb.trans (we id Pm.id).2.symm, fun t ht => by rw [(we t ht).1]; exact hm t ht⟩
    · subst z
      have we : ∀ t : Nat → Nat, Pm (wN v) t → WC (mxC (wN w) (wC w) (wC v)) (mxO (wN w) (wO w) (wO v)) (fun q => wN w + t q) (wN v) = WC (wC v) (wO v) t (wN v) ∧ WM (mxC (wN w) (wC w) (wC v)) (mxO (wN w) (wO w) (wO v)) (fun q => wN w + t q) (wN v) = WM (wC v) (wO v) t (wN v) := fun t ht => WC_eq (fun q hq => cB _) (fun a c hac hc => oB _ _)
      exact ⟨fun q => wN w + q, wN v, ⟨fun q hq => ⟨by show wN w + q < _; omega, rB q hq⟩, fun p q _ _ (e : wN w + p = wN w + q) => by omega, fun x hxn hr => ⟨x - wN w, by have := sB x hr; omega, by have := sB x hr; show wN w + (x - wN w) = x; omega⟩⟩, k2, id, Pm.id, kw.trans (we id Pm.id).1.symm, kb.trans (we id Pm.id).2.symm, fun t ht => by rw [(we t ht).1]; exact km t ht⟩
/-- an idle rule makes nothing -/
theorem idle_ev {g : Wk} {rc r s k : Nat} {ot : Option Nat} {c w b : Nat → Nat} (ok : WkOk g rc) (z : ZOk g rc r s ot c) (hi : Idl g r) (h : EvG g r s ot c k w b) : (∀ i, i < k → ∃ j, j < g.n0 ∧ g.W j = w i) ∧ Same g.W (evA s ot) (evB s ot) (padY k w) := by
  have hP := (ok.2.2.2.2 r z.1).1
  have hX : xA g r s ot c = xB g s ot := by
    funext i j
    show rwO (g.P r) c (g.Af r) (xB g s ot) i j = _
    refine rwO_same hP (fun i j => (pxO_lt i j).2.1) (fun i j hij hj => ?_) i j
    have := (z.2.2.2.1 j hj).2.2 i hij
    exact this.2.trans (hi _ (by omega))
  have hk := ev_k ok z h
  have h : Good (xN g s ot) (xC g s ot) (xB g s ot) g.cap k w b := by rw [← hX]; exact h
  obtain ⟨b0, hb0⟩ := ok.2.2.2.1 s z.2.1
  have perm : ∀ k' w' b', Good (xN g s ot) (xC g s ot) (xB g s ot) g.cap k' w' b' → k' = k ∧ ∃ u, Pm k' u ∧ ∀ i, i < k' → w i = w' (u i) := by
    intro k' w' b' h'
    obtain ⟨e, u, hu, eu⟩ := PL.perm (pi := id) ok.1.2 (fun i _ => pxC_lt i) (fun i j _ _ => ⟨(pxO_lt i j).1, (pxO_lt i j).2.1⟩) Pm.id (fun y hy => ⟨y, hy, rfl⟩) (fun _ _ => rfl) (fun _ _ _ _ => rfl) h'.2 h.2
    exact ⟨e, u, hu, fun i hi => (eu i hi).1⟩
  cases ot with
  | none =>
    obtain ⟨e, u, hu, eu⟩ := perm 1 _ _ (one_good ok.1.2 hb0)
    subst e
    refine ⟨fun i hi => ⟨s, z.2.1, (eu i hi).symm⟩, ?_⟩
    refine Same.yq (y := padY 1 (fun _ => g.W s)) ?_ (padY_yq (by omega) hu eu)
    intro P
    show 0 + (if P (g.W s + 1) = true then 1 else 0) + (if P 0 = true then 1 else 0) + (if P 0 = true then 1 else 0) = 0 + (if P 0 = true then 1 else 0) + (if P 0 = true then 1 else 0) + (if P (g.W s + 1) = true then 1 else 0)
    omega
  | some t =>
    obtain ⟨b1, hb1⟩ := ok.2.2.2.1 t (z.2.2.1 t rfl)
    obtain ⟨e, u, hu, eu⟩ := perm 2 _ _ (two_good ok.1.2 hb0 hb1)
    subst e
    refine ⟨fun i hi => ?_, ?_⟩
    · rw [eu i hi]
      by_cases y : u i = 0
      · rw [if_pos y]; exact ⟨s, z.2.1, rfl⟩
      · rw [if_neg y]; exact ⟨t, z.2.2.1 t rfl, rfl⟩
    · refine Same.yq (y := padY 2 (fun i => if i = 0 then g.W s else g.W t)) ?_ (padY_yq (by omega) hu eu)
      intro P
      have e1 : wd1 g.W (min s t + 1) = g.W (min s t) + 1 := by unfold wd1; rw [if_neg (by omega), Nat.add_sub_cancel]
      have e2 : wd1 g.W (max s t + 1) = g.W (max s t) + 1 := by unfold wd1; rw [if_neg (by omega), Nat.add_sub_cancel]
      show 0 + (if P (g.W s + 1) = true then 1 else 0) + (if P (g.W t + 1) = true then 1 else 0) + (if P 0 = true then 1 else 0) = 0 + (if P 0 = true then 1 else 0) + (if P (wd1 g.W (min s t + 1)) = true then 1 else 0) + (if P (wd1 g.W (max s t + 1)) = true then 1 else 0)
      rw [e1, e2]
      rcases Nat.le_total s t with y | y
      · rw [Nat.min_eq_left y, Nat.max_eq_right y]
        omega
      · rw [Nat.min_eq_right y, Nat.max_eq_left y]
        omega
/-- the two molecules change places -/
def sxp (na nb x : Nat) : Nat := if x < na then x + nb else x - na
theorem sxp_ok {na nb x : Nat} (hx : x < na + nb) : sxp na nb x < nb + na ∧ sxp nb na (sxp na nb x) = x := by
  unfold sxp
  by_cases z : x < na
  · rw [if_pos z, if_neg (by omega)]
    omega
  · rw [if_neg z, if_pos (by omega)]
    omega
theorem sxp_ev {g : Wk} {rc r s t k : Nat} {c w b : Nat → Nat} (ok : WkOk g rc) (hr : r < rc) (hs : s < g.n0) (ht : t < g.n0) (hE : EvM g r s (some t) c) (h : EvG g r s (some t) c k w b) : EvM g r t (some s) (fun j => sxp (wN (g.W s)) (wN (g.W t)) (c j)) ∧ EvG g r t (some s) (fun j => sxp (wN (g.W s)) (wN (g.W t)) (c j)) k w b := by
  have hP := (ok.2.2.2.2 r hr).1
  obtain ⟨bs, hbs⟩ := ok.2.2.2.1 s hs
  obtain ⟨bt, hbt⟩ := ok.2.2.2.1 t ht
  have n1 := (hbs.w ok.1.2).1
  have n2 := (hbt.w ok.1.2).1
  have nX : xN g s (some t) = wN (g.W s) + wN (g.W t) := rfl
  have nY : xN g t (some s) = wN (g.W t) + wN (g.W s) := rfl
  have ec : ∀ x, x < wN (g.W s) + wN (g.W t) → xC g t (some s) (sxp (wN (g.W s)) (wN (g.W t)) x) = xC g s (some t) x := by
    intro x hx
    show mxC (wN (g.W t)) (wC (g.W t)) (wC (g.W s)) (sxp (wN (g.W s)) (wN (g.W t)) x) = mxC (wN (g.W s)) (wC (g.W s)) (wC (g.W t)) x
    unfold mxC sxp
    by_cases z : x < wN (g.W s)
    · rw [if_pos z, if_neg (by omega), if_pos z, Nat.add_sub_cancel]
    · rw [if_neg z, if_pos (by omega), if_neg z]
  have eo : ∀ x y, x < wN (g.W s) + wN (g.W t) → y < wN (g.W s) + wN (g.W t) → xB g t (some s) (sxp (wN (g.W s)) (wN (g.W t)) x) (sxp (wN (g.W s)) (wN (g.W t)) y) = xB g s (some t) x y := by
    intro x y hx hy
    show mxO (wN (g.W t)) (wO (g.W t)) (wO (g.W s)) (sxp (wN (g.W s)) (wN (g.W t)) x) (sxp (wN (g.W s)) (wN (g.W t)) y) = mxO (wN (g.W s)) (wO (g.W s)) (wO (g.W t)) x y
    unfold mxO sxp
    by_cases zx : x < wN (g.W s)
    · by_cases zy : y < wN (g.W s)
      · rw [if_pos zx, if_pos zy, if_neg (by omega), if_pos (by omega), if_pos ⟨zx, zy⟩, Nat.add_sub_cancel, Nat.add_sub_cancel]
      · rw [if_pos zx, if_neg zy, if_neg (by omega), if_neg (by omega), if_neg (by omega), if_neg (by omega)]
    · by_cases zy : y < wN (g.W s)
      · rw [if_neg zx, if_pos zy, if_neg (by omega), if_neg (by omega), if_neg (by omega), if_neg (by omega)]
      · rw [if_neg zx, if_neg zy, if_pos (by omega), if_neg (by omega), if_pos (by omega)]
  have inj : ∀ x y, x < wN (g.W s) + wN (g.W t) → y < wN (g.W s) + wN (g.W t) → sxp (wN (g.W s)) (wN (g.W t)) x = sxp (wN (g.W s)) (wN (g.W t)) y → x = y := fun x y hx hy e => by rw [← (sxp_ok hx).2, ← (sxp_ok hy).2, e]
  have cl : ∀ j, j < g.P r → c j < wN (g.W s) + wN (g.W t) := fun j hj => (hE.1 j hj).1
  refine ⟨⟨fun j hj => ⟨by rw [nY]; exact (sxp_ok (cl j hj)).1, ?_, fun p hp => ?_⟩, ?_⟩, ?_⟩
  · rw [ec _ (cl j hj)]; exact (hE.1 j hj).2.1
  · obtain ⟨q1, q2⟩ := (hE.1 j hj).2.2 p hp
    refine ⟨fun e => q1 (inj _ _ (cl p (by omega)) (cl j hj) e), ?_⟩
    rw [eo _ _ (cl p (by omega)) (cl j hj)]
    exact q2
  · obtain ⟨t1, j, hj, t2⟩ := hE.2
    have t2 : wN (g.W s) ≤ c j := t2
    have cj := cl j hj
    obtain ⟨i, hi, t3⟩ : ∃ i, i < g.P r ∧ c i < wN (g.W s) := by
      rcases t1 with y | y
      · have y : wN (g.W s) = 0 := y
        omega
      · exact y
    refine ⟨Or.inr ⟨j, hj, ?_⟩, i, hi, ?_⟩
    · show sxp (wN (g.W s)) (wN (g.W t)) (c j) < wN (g.W t)
      unfold sxp
      rw [if_neg (by omega)]
      omega
    · show wN (g.W t) ≤ sxp (wN (g.W s)) (wN (g.W t)) (c i)
      unfold sxp
      rw [if_pos t3]
      omega
  · refine Good.map (n := wN (g.W s) + wN (g.W t)) (pi := sxp (wN (g.W s)) (wN (g.W t))) (rho := sxp (wN (g.W t)) (wN (g.W s))) (fun x hx => by have := sxp_ok hx; rw [Nat.add_comm (wN (g.W t))] at this; exact this) (fun x hx => by rw [Nat.add_comm] at hx; exact sxp_ok hx) ec (fun x y hx hy => ?_) h |> (fun q => by
      show Good (wN (g.W t) + wN (g.W s)) _ _ _ _ _ _
      rw [Nat.add_comm]
      exact q)
    show rwO (g.P r) (fun j => sxp (wN (g.W s)) (wN (g.W t)) (c j)) (g.Af r) (xB g t (some s)) (sxp (wN (g.W s)) (wN (g.W t)) x) (sxp (wN (g.W s)) (wN (g.W t)) y) = rwO (g.P r) c (g.Af r) (xB g s (some t)) x y
    have os : ∀ (o1 o2 : Nat → Nat → Nat) (p q v : Nat), p < g.P r → q < g.P r → o1 (sxp (wN (g.W s)) (wN (g.W t)) x) (sxp (wN (g.W s)) (wN (g.W t)) y) = o2 x y → oset o1 (sxp (wN (g.W s)) (wN (g.W t)) (c p)) (sxp (wN (g.W s)) (wN (g.W t)) (c q)) v (sxp (wN (g.W s)) (wN (g.W t)) x) (sxp (wN (g.W s)) (wN (g.W t)) y) = oset o2 (c p) (c q) v x y := by
      intro o1 o2 p q v hp hq e
      unfold oset
      by_cases y' : (x = c p ∧ y = c q) ∨ (x = c q ∧ y = c p)
      · rw [if_pos y', if_pos (by rcases y' with ⟨a, b⟩ | ⟨a, b⟩; exact Or.inl ⟨by rw [a], by rw [b]⟩; exact Or.inr ⟨by rw [a], by rw [b]⟩)]
      · rw [if_neg y', if_neg (fun z => y' (by rcases z with ⟨a, b⟩ | ⟨a, b⟩; exact Or.inl ⟨inj _ _ hx (cl p hp) a, inj _ _ hy (cl q hq) b⟩; exact Or.inr ⟨inj _ _ hx (cl q hq) a, inj _ _ hy (cl p hp) b⟩))]
        exact e
    unfold rwO
    rcases hP with z | z
    · rw [if_pos z, if_pos z]
      exact os _ _ 0 1 _ (by omega) (by omega) (eo x y hx hy)
    · rw [if_neg (by omega), if_neg (by omega)]
      exact os _ _ 1 2 _ (by omega) (by omega) (os _ _ 0 2 _ (by omega) (by omega) (os _ _ 0 1 _ (by omega) (by omega) (eo x y hx hy)))
/-- an event of the one is one of the other -/
theorem ev_cm {g : Wk} {rc r s k : Nat} {ot : Option Nat} {c w b : Nat → Nat} (ok : WkOk g rc) (z : Zcl g rc g.n0 0 r s ot c) (h : EvG g r s ot c k w b) : ∃ s' ot' c', ZMf g rc r s' ot' c' ∧ EvG g r s' ot' c' k w b ∧ evA s' ot' = evA s ot ∧ evB s' ot' = evB s ot := by
  obtain ⟨z1, z2, z3, z4⟩ := z
  cases ot with
  | none => exact ⟨s, none, c, ⟨z1, by omega, fun t et => (by cases et), z3⟩, h, rfl, rfl⟩
  | some t =>
    have z4 : (s < g.n0 ∧ t + 1 ≤ s + 1) ∨ (s = g.n0 ∧ t + 1 < 0) := z4
    obtain ⟨e1, e2⟩ := sxp_ev ok z1 (show s < g.n0 by omega) (show t < g.n0 by omega) z3 h
    exact ⟨t, some s, _, ⟨z1, by omega, fun t' et => (by cases et; omega), e1⟩, e2, by show min t s + 1 = min s t + 1; rw [Nat.min_comm], by show max t s + 1 = max s t + 1; rw [Nat.max_comm]⟩
theorem ev_mc {g : Wk} {rc r s k : Nat} {ot : Option Nat} {c w b : Nat → Nat} (ok : WkOk g rc) (z : ZMf g rc r s ot c) (hi : ¬ Idl g r) (h : EvG g r s ot c k w b) : ∃ s' ot' c', Zcl g rc g.n0 0 r s' ot' c' ∧ EvG g r s' ot' c' k w b ∧ evA s' ot' = evA s ot ∧ evB s' ot' = evB s ot := by
  obtain ⟨z1, z2, z3, z4⟩ := z
  cases ot with
  | none => exact ⟨s, none, c, ⟨z1, hi, z4, Or.inl ⟨z2, Nat.zero_le _⟩⟩, h, rfl, rfl⟩
  | some t =>
    have := z3 t rfl
    obtain ⟨e1, e2⟩ := sxp_ev ok z1 z2 this.2 z4 h
    exact ⟨t, some s, _, ⟨z1, hi, e1, Or.inl ⟨this.2, by show s + 1 ≤ t + 1; omega⟩⟩, e2, by show min t s + 1 = min s t + 1; rw [Nat.min_comm], by show max t s + 1 = max s t + 1; rw [Nat.max_comm]⟩
theorem EvW_cm {g : Wk} {rc v : Nat} (ok : WkOk g rc) : EvW g (Zcl g rc g.n0 0) v ↔ EvW g (ZMf g rc) v := by
  constructor
  · rintro (q | ⟨r, s, ot, c, k, w, b, i, zz, h, hi, e⟩)
    · exact Or.inl q
    · obtain ⟨s', ot', c', z', h', -⟩ := ev_cm ok zz h
      exact Or.inr ⟨r, s', ot', c', k, w, b, i, z', h', hi, e⟩
  · rintro (q | ⟨r, s, ot, c, k, w, b, i, zz, h, hi, e⟩)
    · exact Or.inl q
    · by_cases hid : Idl g r
      · obtain ⟨j, hj, ej⟩ := (idle_ev ok (ZMf_ok _ _ _ _ zz) hid h).1 i hi
        exact Or.inl ⟨j, hj, ej.trans e⟩
      · obtain ⟨s', ot', c', z', h', -⟩ := ev_mc ok zz hid h
        exact Or.inr ⟨r, s', ot', c', k, w, b, i, z', h', hi, e⟩
theorem EvA_cm {g : Wk} {rc a b : Nat} {y : Nat → Nat} {A0 : Nat → Nat → (Nat → Nat) → Prop} (ok : WkOk g rc) : EvA g A0 (Zcl g rc g.n0 0) a b y ↔ EvA g A0 (ZMf g rc) a b y := by
  constructor
  · rintro (q | ⟨r, s, ot, c, k, w, b2, zz, h, hs, e1, e2, e3⟩)
    · exact Or.inl q
    · obtain ⟨s', ot', c', z', h', f1, f2⟩ := ev_cm ok zz h
      exact Or.inr ⟨r, s', ot', c', k, w, b2, z', h', by rw [f1, f2]; exact hs, by rw [f1]; exact e1, by rw [f2]; exact e2, e3⟩
  · rintro (q | ⟨r, s, ot, c, k, w, b2, zz, h, hs, e1, e2, e3⟩)
    · exact Or.inl q
    · by_cases hid : Idl g r
      · exact absurd (idle_ev ok (ZMf_ok _ _ _ _ zz) hid h).2 hs
      · obtain ⟨s', ot', c', z', h', f1, f2⟩ := ev_mc ok zz hid h
        exact Or.inr ⟨r, s', ot', c', k, w, b2, z', h', by rw [f1, f2]; exact hs, by rw [f1]; exact e1, by rw [f2]; exact e2, e3⟩
theorem RunZ_cm {g : Wk} {rc u rn : Nat} {nu U : Nat → Nat} {A0 : Nat → Nat → (Nat → Nat) → Prop} {R : Nat → Nat → Nat} (ok : WkOk g rc) : RunZ g A0 nu (Zcl g rc g.n0 0) u U rn R ↔ RunZ g A0 nu (ZMf g rc) u U rn R :=
  ⟨fun h => Run.same h (fun _ => (EvW_cm ok).symm) (fun _ _ y hy => ⟨y, (EvA_cm ok).mp hy, yq.rf⟩) (fun _ _ y hy => ⟨y, (EvA_cm ok).mpr hy, yq.rf⟩), fun h => Run.same h (fun _ => EvW_cm ok) (fun _ _ y hy => ⟨y, (EvA_cm ok).mpr hy, yq.rf⟩) (fun _ _ y hy => ⟨y, (EvA_cm ok).mp hy, yq.rf⟩)⟩
