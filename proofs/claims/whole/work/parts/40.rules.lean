def am_GK (K : am_K) (cd : List (Nat × am_T)) : Prop := am_KM K ∧ ∀ q ∈ cd, am_TM q.2
section
variable {K : am_K} {cd : List (Nat × am_T)} {Q : am_Q} {pc pn : Nat} {ls : am_L} {st : List Value} {h : am_H} {c z : Nat}
theorem am_go {T : am_T} (G : am_GK K cd) (hf : am_fetch cd pc = T) (k : T K Q (am_Go K (am_fetch cd) Q) pc ls st h c z) : am_Go K (am_fetch cd) Q pc ls st h c z := am_Go_into G.1 (am_fetch_m G.2) (by rw [hf]; exact k)
theorem r_ic {v : Int32} {len : Nat} (G : am_GK K cd) (hf : am_fetch cd pc = am_ic v len) (hp : pc + len = pn)  (k : am_Go K (am_fetch cd) Q pn ls (.int v :: st) (h) c z) : am_Go K (am_fetch cd) Q pc ls (st) h c z := by
  subst hp
  refine am_go G hf ?_
  exact k
theorem r_lc {v : Int64} {len : Nat} (G : am_GK K cd) (hf : am_fetch cd pc = am_lc v len) (hp : pc + len = pn)  (k : am_Go K (am_fetch cd) Q pn ls (.long v :: st) (h) c z) : am_Go K (am_fetch cd) Q pc ls (st) h c z := by
  subst hp
  refine am_go G hf ?_
  exact k
theorem r_il {i len : Nat} {x : Int32} (G : am_GK K cd) (hf : am_fetch cd pc = am_il i len) (hp : pc + len = pn) (hl : am_al ls i = some (.int x)) (k : am_Go K (am_fetch cd) Q pn ls (.int x :: st) (h) c z) : am_Go K (am_fetch cd) Q pc ls (st) h c z := by
  subst hp
  refine am_go G hf ?_
  unfold am_il; rw [hl]; exact k
theorem r_ll {i len : Nat} {x : Int64} (G : am_GK K cd) (hf : am_fetch cd pc = am_ll i len) (hp : pc + len = pn) (hl : am_al ls i = some (.long x)) (k : am_Go K (am_fetch cd) Q pn ls (.long x :: st) (h) c z) : am_Go K (am_fetch cd) Q pc ls (st) h c z := by
  subst hp
  refine am_go G hf ?_
  unfold am_ll; rw [hl]; exact k
theorem r_ra {i len : Nat} {x : Nat} (G : am_GK K cd) (hf : am_fetch cd pc = am_ra i len) (hp : pc + len = pn) (hl : am_al ls i = some (.ref x)) (k : am_Go K (am_fetch cd) Q pn ls (.ref x :: st) (h) c z) : am_Go K (am_fetch cd) Q pc ls (st) h c z := by
  subst hp
  refine am_go G hf ?_
  unfold am_ra; rw [hl]; exact k
theorem r_rf {i len : Nat} {x : UInt32} (G : am_GK K cd) (hf : am_fetch cd pc = am_ra i len) (hp : pc + len = pn) (hl : am_al ls i = some (.float x)) (k : am_Go K (am_fetch cd) Q pn ls (.float x :: st) (h) c z) : am_Go K (am_fetch cd) Q pc ls (st) h c z := by
  subst hp
  refine am_go G hf ?_
  unfold am_ra; rw [hl]; exact k
theorem r_is {i len : Nat} {x : Int32} (G : am_GK K cd) (hf : am_fetch cd pc = am_is i len) (hp : pc + len = pn) (hi : i < ls.length) (k : am_Go K (am_fetch cd) Q pn (am_s1 ls i (.int x)) (st) (h) c z) : am_Go K (am_fetch cd) Q pc ls (.int x :: st) h c z := by
  subst hp
  refine am_go G hf ?_
  exact ⟨hi, k⟩
theorem r_ls {i len : Nat} {x : Int64} (G : am_GK K cd) (hf : am_fetch cd pc = am_ls i len) (hp : pc + len = pn) (hi : i + 1 < ls.length) (k : am_Go K (am_fetch cd) Q pn (am_s2 ls i (.long x)) (st) (h) c z) : am_Go K (am_fetch cd) Q pc ls (.long x :: st) h c z := by
  subst hp
  refine am_go G hf ?_
  exact ⟨hi, k⟩
theorem r_rs {i len : Nat} {x : Nat} (G : am_GK K cd) (hf : am_fetch cd pc = am_rs i len) (hp : pc + len = pn) (hi : i < ls.length) (k : am_Go K (am_fetch cd) Q pn (am_s1 ls i (.ref x)) (st) (h) c z) : am_Go K (am_fetch cd) Q pc ls (.ref x :: st) h c z := by
  subst hp
  refine am_go G hf ?_
  exact ⟨hi, k⟩
theorem r_inc {i : Nat} {n x : Int32} (G : am_GK K cd) (hf : am_fetch cd pc = am_inc i n) (hp : pc + 3 = pn) (hl : am_al ls i = some (.int x)) (hi : i < ls.length) (k : am_Go K (am_fetch cd) Q pn (am_s1 ls i (.int (x + n))) (st) (h) c z) : am_Go K (am_fetch cd) Q pc ls (st) h c z := by
  subst hp
  refine am_go G hf ?_
  unfold am_inc; rw [hl]; exact ⟨hi, k⟩
theorem r_ib {f : Int32 → Int32 → Int32} {x y : Int32} (G : am_GK K cd) (hf : am_fetch cd pc = am_ib f) (hp : pc + 1 = pn)  (k : am_Go K (am_fetch cd) Q pn ls (.int (f x y) :: st) (h) c z) : am_Go K (am_fetch cd) Q pc ls (.int y :: .int x :: st) h c z := by
  subst hp
  refine am_go G hf ?_
  exact k
theorem r_idiv {x y : Int32} (G : am_GK K cd) (hf : am_fetch cd pc = am_idiv) (hp : pc + 1 = pn) (hy : ¬ y = 0) (k : am_Go K (am_fetch cd) Q pn ls (.int (x / y) :: st) (h) c z) : am_Go K (am_fetch cd) Q pc ls (.int y :: .int x :: st) h c z := by
  subst hp
  refine am_go G hf ?_
  exact ⟨hy, k⟩
theorem r_irem {x y : Int32} (G : am_GK K cd) (hf : am_fetch cd pc = am_irem) (hp : pc + 1 = pn) (hy : ¬ y = 0) (k : am_Go K (am_fetch cd) Q pn ls (.int (x - x / y * y) :: st) (h) c z) : am_Go K (am_fetch cd) Q pc ls (.int y :: .int x :: st) h c z := by
  subst hp
  refine am_go G hf ?_
  exact ⟨hy, k⟩
theorem r_lb {f : Int64 → Int64 → Int64} {x y : Int64} (G : am_GK K cd) (hf : am_fetch cd pc = am_lb f) (hp : pc + 1 = pn)  (k : am_Go K (am_fetch cd) Q pn ls (.long (f x y) :: st) (h) c z) : am_Go K (am_fetch cd) Q pc ls (.long y :: .long x :: st) h c z := by
  subst hp
  refine am_go G hf ?_
  exact k
theorem r_lsh {f : Int64 → Int32 → Int64} {x : Int64} {y : Int32} (G : am_GK K cd) (hf : am_fetch cd pc = am_lsh f) (hp : pc + 1 = pn)  (k : am_Go K (am_fetch cd) Q pn ls (.long (f x y) :: st) (h) c z) : am_Go K (am_fetch cd) Q pc ls (.int y :: .long x :: st) h c z := by
  subst hp
  refine am_go G hf ?_
  exact k
theorem r_lcmp {x y : Int64} (G : am_GK K cd) (hf : am_fetch cd pc = am_lcmp) (hp : pc + 1 = pn)  (k : am_Go K (am_fetch cd) Q pn ls (.int (lg_cmp x y) :: st) (h) c z) : am_Go K (am_fetch cd) Q pc ls (.long y :: .long x :: st) h c z := by
  subst hp
  refine am_go G hf ?_
  exact k
theorem r_i2l {x : Int32} (G : am_GK K cd) (hf : am_fetch cd pc = am_i2l) (hp : pc + 1 = pn)  (k : am_Go K (am_fetch cd) Q pn ls (.long x.toInt64 :: st) (h) c z) : am_Go K (am_fetch cd) Q pc ls (.int x :: st) h c z := by
  subst hp
  refine am_go G hf ?_
  exact k
theorem r_l2i {x : Int64} (G : am_GK K cd) (hf : am_fetch cd pc = am_l2i) (hp : pc + 1 = pn)  (k : am_Go K (am_fetch cd) Q pn ls (.int x.toInt32 :: st) (h) c z) : am_Go K (am_fetch cd) Q pc ls (.long x :: st) h c z := by
  subst hp
  refine am_go G hf ?_
  exact k
theorem r_i2c {x : Int32} (G : am_GK K cd) (hf : am_fetch cd pc = am_i2c) (hp : pc + 1 = pn)  (k : am_Go K (am_fetch cd) Q pn ls (.int (x.toUInt32 % 65536).toInt32 :: st) (h) c z) : am_Go K (am_fetch cd) Q pc ls (.int x :: st) h c z := by
  subst hp
  refine am_go G hf ?_
  exact k
theorem r_dup {v : Value} (G : am_GK K cd) (hf : am_fetch cd pc = am_dup) (hp : pc + 1 = pn) (hv : v.category = 1) (k : am_Go K (am_fetch cd) Q pn ls (v :: v :: st) (h) c z) : am_Go K (am_fetch cd) Q pc ls (v :: st) h c z := by
  subst hp
  refine am_go G hf ?_
  exact ⟨hv, k⟩
theorem r_pop {v : Value} (G : am_GK K cd) (hf : am_fetch cd pc = am_pop) (hp : pc + 1 = pn) (hv : v.category = 1) (k : am_Go K (am_fetch cd) Q pn ls (st) (h) c z) : am_Go K (am_fetch cd) Q pc ls (v :: st) h c z := by
  subst hp
  refine am_go G hf ?_
  exact ⟨hv, k⟩
theorem r_goto {t : Nat} (G : am_GK K cd) (hf : am_fetch cd pc = am_goto t) (k : am_Go K (am_fetch cd) Q t ls st h c z) : am_Go K (am_fetch cd) Q pc ls st h c z := am_go G hf k
theorem r_if1 {P : Int32 → Prop} {t : Nat} {x : Int32} (G : am_GK K cd) (hf : am_fetch cd pc = am_if1 P t) (hp : pc + 3 = pn) (kt : P x → am_Go K (am_fetch cd) Q t ls st h c z) (kf : ¬ P x → am_Go K (am_fetch cd) Q pn ls st h c z) : am_Go K (am_fetch cd) Q pc ls (.int x :: st) h c z := by
  subst hp
  exact am_go G hf ⟨kt, kf⟩
theorem r_if2 {P : Int32 → Int32 → Prop} {t : Nat} {x y : Int32} (G : am_GK K cd) (hf : am_fetch cd pc = am_if2 P t) (hp : pc + 3 = pn) (kt : P x y → am_Go K (am_fetch cd) Q t ls st h c z) (kf : ¬ P x y → am_Go K (am_fetch cd) Q pn ls st h c z) : am_Go K (am_fetch cd) Q pc ls (.int y :: .int x :: st) h c z := by
  subst hp
  exact am_go G hf ⟨kt, kf⟩
theorem r_iret {ty : FieldType} {x : Int32} (G : am_GK K cd) (hf : am_fetch cd pc = am_iret ty) (hn : narrow ty (.int x) = .int x) (k : Q (some (.int x)) h) : am_Go K (am_fetch cd) Q pc ls [.int x] h c z := am_go G hf ⟨hn, k⟩
theorem r_lret {x : Int64} (G : am_GK K cd) (hf : am_fetch cd pc = am_lret) (k : Q (some (.long x)) h) : am_Go K (am_fetch cd) Q pc ls [.long x] h c z := am_go G hf k
theorem r_vret (G : am_GK K cd) (hf : am_fetch cd pc = am_vret) (k : Q none h) : am_Go K (am_fetch cd) Q pc ls [] h c z := am_go G hf k
theorem r_get {ci f a : Nat} {fs : List Value} {v : Value} (G : am_GK K cd) (hf : am_fetch cd pc = am_get ci f) (hp : pc + 3 = pn) (ha : h[a]? = some (.inr (ci, fs))) (hv : fs[f]? = some v) (k : am_Go K (am_fetch cd) Q pn ls (v :: st) (h) c z) : am_Go K (am_fetch cd) Q pc ls (.ref a :: st) h c z := by
  subst hp
  refine am_go G hf ?_
  unfold am_get; simp only [ha, hv]; exact ⟨trivial, k⟩
theorem r_puti {ci f a : Nat} {fs : List Value} {x : Int32} (G : am_GK K cd) (hf : am_fetch cd pc = am_put ci f .int) (hp : pc + 3 = pn) (ha : h[a]? = some (.inr (ci, fs))) (hk : f < fs.length) (k : am_Go K (am_fetch cd) Q pn ls (st) (h.set a (.inr (ci, fs.set f (.int x)))) c z) : am_Go K (am_fetch cd) Q pc ls (.int x :: .ref a :: st) h c z := by
  subst hp
  refine am_go G hf ?_
  unfold am_put; simp only [ha]; exact ⟨trivial, hk, trivial, rfl, rfl, k⟩
theorem r_putz {ci f a : Nat} {fs : List Value} {x : Int32} (G : am_GK K cd) (hf : am_fetch cd pc = am_put ci f .boolean) (hp : pc + 3 = pn) (ha : h[a]? = some (.inr (ci, fs))) (hk : f < fs.length) (hx : x = 0 ∨ x = 1) (k : am_Go K (am_fetch cd) Q pn ls (st) (h.set a (.inr (ci, fs.set f (.int x)))) c z) : am_Go K (am_fetch cd) Q pc ls (.int x :: .ref a :: st) h c z := by
  subst hp
  refine am_go G hf ?_
  unfold am_put; simp only [ha]; exact ⟨trivial, hk, trivial, by rcases hx with rfl | rfl <;> decide, by rcases hx with rfl | rfl <;> decide, k⟩
theorem r_putr {ci f a b : Nat} {fs : List Value} {ty : FieldType} (G : am_GK K cd) (hf : am_fetch cd pc = am_put ci f ty) (hp : pc + 3 = pn) (ha : h[a]? = some (.inr (ci, fs))) (hk : f < fs.length) (hn : narrow ty (.ref b) = .ref b) (hft : fits ty (.ref b) = true) (k : am_Go K (am_fetch cd) Q pn ls (st) (h.set a (.inr (ci, fs.set f (.ref b)))) c z) : am_Go K (am_fetch cd) Q pc ls (.ref b :: .ref a :: st) h c z := by
  subst hp
  refine am_go G hf ?_
  unfold am_put; simp only [ha]; exact ⟨trivial, hk, trivial, hn, hft, k⟩
theorem r_iald {a n : Nat} {f : Nat → Int32} {i : Int32} (G : am_GK K cd) (hf : am_fetch cd pc = am_iald) (hp : pc + 1 = pn) (ha : h[a]? = some (.inl (.int, n, .inl f))) (hi : vp_in i n) (k : am_Go K (am_fetch cd) Q pn ls (.int (f i.toNatClampNeg) :: st) (h) c z) : am_Go K (am_fetch cd) Q pc ls (.int i :: .ref a :: st) h c z := by
  subst hp
  refine am_go G hf ?_
  unfold am_iald; simp only [ha]; exact ⟨trivial, hi, k⟩
theorem r_cald {a n : Nat} {f : Nat → Int32} {i : Int32} (G : am_GK K cd) (hf : am_fetch cd pc = am_cald) (hp : pc + 1 = pn) (ha : h[a]? = some (.inl (.char, n, .inl f))) (hi : vp_in i n) (k : am_Go K (am_fetch cd) Q pn ls (.int (f i.toNatClampNeg) :: st) (h) c z) : am_Go K (am_fetch cd) Q pc ls (.int i :: .ref a :: st) h c z := by
  subst hp
  refine am_go G hf ?_
  unfold am_cald; simp only [ha]; exact ⟨trivial, hi, k⟩
theorem r_lald {a n : Nat} {f : Nat → Int64} {i : Int32} (G : am_GK K cd) (hf : am_fetch cd pc = am_lald) (hp : pc + 1 = pn) (ha : h[a]? = some (.inl (.long, n, .inr (.inl f)))) (hi : vp_in i n) (k : am_Go K (am_fetch cd) Q pn ls (.long (f i.toNatClampNeg) :: st) (h) c z) : am_Go K (am_fetch cd) Q pc ls (.int i :: .ref a :: st) h c z := by
  subst hp
  refine am_go G hf ?_
  unfold am_lald; simp only [ha]; exact ⟨trivial, hi, k⟩
theorem r_rald {ty : FieldType} {a n b : Nat} {f : Nat → Option Nat} {i : Int32} (G : am_GK K cd) (hf : am_fetch cd pc = am_rald ty) (hp : pc + 1 = pn) (ha : h[a]? = some (.inl (ty, n, .inr (.inr (.inr (.inr f)))))) (hi : vp_in i n) (hb : f i.toNatClampNeg = some b) (k : am_Go K (am_fetch cd) Q pn ls (.ref b :: st) (h) c z) : am_Go K (am_fetch cd) Q pc ls (.int i :: .ref a :: st) h c z := by
  subst hp
  refine am_go G hf ?_
  unfold am_rald; simp only [ha]; refine ⟨trivial, hi, ?_⟩; rw [hb]; exact k
theorem r_iast {a n : Nat} {f : Nat → Int32} {i x : Int32} (G : am_GK K cd) (hf : am_fetch cd pc = am_iast) (hp : pc + 1 = pn) (ha : h[a]? = some (.inl (.int, n, .inl f))) (hi : vp_in i n) (k : am_Go K (am_fetch cd) Q pn ls (st) (h.set a (.inl (.int, n, .inl (upd f i.toNatClampNeg x)))) c z) : am_Go K (am_fetch cd) Q pc ls (.int x :: .int i :: .ref a :: st) h c z := by
  subst hp
  refine am_go G hf ?_
  unfold am_iast; simp only [ha]; exact ⟨trivial, hi, k⟩
theorem r_cast {a n : Nat} {f : Nat → Int32} {i x : Int32} (G : am_GK K cd) (hf : am_fetch cd pc = am_cast) (hp : pc + 1 = pn) (ha : h[a]? = some (.inl (.char, n, .inl f))) (hi : vp_in i n) (k : am_Go K (am_fetch cd) Q pn ls (st) (h.set a (.inl (.char, n, .inl (upd f i.toNatClampNeg (vp_nar .char x))))) c z) : am_Go K (am_fetch cd) Q pc ls (.int x :: .int i :: .ref a :: st) h c z := by
  subst hp
  refine am_go G hf ?_
  unfold am_cast; simp only [ha]; exact ⟨trivial, hi, k⟩
theorem r_last {a n : Nat} {f : Nat → Int64} {i : Int32} {x : Int64} (G : am_GK K cd) (hf : am_fetch cd pc = am_last) (hp : pc + 1 = pn) (ha : h[a]? = some (.inl (.long, n, .inr (.inl f)))) (hi : vp_in i n) (k : am_Go K (am_fetch cd) Q pn ls (st) (h.set a (.inl (.long, n, .inr (.inl (vp_updL f i.toNatClampNeg x))))) c z) : am_Go K (am_fetch cd) Q pc ls (.long x :: .int i :: .ref a :: st) h c z := by
  subst hp
  refine am_go G hf ?_
  unfold am_last; simp only [ha]; exact ⟨trivial, hi, k⟩
theorem r_rast {ci : Nat} {E : String} {a n v : Nat} {f : Nat → Option Nat} {i : Int32} {fs : List Value} (G : am_GK K cd) (hf : am_fetch cd pc = am_rast ci E) (hp : pc + 1 = pn) (ha : h[a]? = some (.inl (.object E, n, .inr (.inr (.inr (.inr f)))))) (hi : vp_in i n) (hv : h[v]? = some (.inr (ci, fs))) (k : am_Go K (am_fetch cd) Q pn ls (st) (h.set a (.inl (.object E, n, .inr (.inr (.inr (.inr (va_up f i.toNatClampNeg (some v)))))))) c z) : am_Go K (am_fetch cd) Q pc ls (.ref v :: .int i :: .ref a :: st) h c z := by
  subst hp
  refine am_go G hf ?_
  unfold am_rast; simp only [ha, hv]; exact ⟨trivial, hi, trivial, k⟩
theorem r_len {a n : Nat} {g : (Nat → Int32) ⊕ (Nat → Int64) ⊕ (Nat → UInt32) ⊕ (Nat → UInt64) ⊕ (Nat → Option Nat)} (G : am_GK K cd) (hf : am_fetch cd pc = am_len) (hp : pc + 1 = pn) (ha : h[a]? = some (.inl (.int, n, g))) (k : am_Go K (am_fetch cd) Q pn ls (.int (Int32.ofNat n) :: st) (h) c z) : am_Go K (am_fetch cd) Q pc ls (.ref a :: st) h c z := by
  subst hp
  refine am_go G hf ?_
  unfold am_len; simp only [ha]; exact ⟨trivial, k⟩
theorem r_obj {a : Nat} (G : am_GK K cd) (hf : am_fetch cd pc = am_obj) (hp : pc + 3 = pn) (hr : am_rest st) (k : am_Go K (am_fetch cd) Q pn ls (st) (h) c z) : am_Go K (am_fetch cd) Q pc ls (.ref a :: st) h c z := by
  subst hp
  refine am_go G hf ?_
  exact ⟨hr, k⟩
theorem r_max {x y : Int32} (G : am_GK K cd) (hf : am_fetch cd pc = am_max) (hp : pc + 3 = pn) (hr : am_rest st) (k : am_Go K (am_fetch cd) Q pn ls (.int (if x < y then y else x) :: st) (h) c z) : am_Go K (am_fetch cd) Q pc ls (.int y :: .int x :: st) h c z := by
  subst hp
  refine am_go G hf ?_
  exact ⟨hr, k⟩
theorem r_min {x y : Int32} (G : am_GK K cd) (hf : am_fetch cd pc = am_min) (hp : pc + 3 = pn) (hr : am_rest st) (k : am_Go K (am_fetch cd) Q pn ls (.int (if y < x then y else x) :: st) (h) c z) : am_Go K (am_fetch cd) Q pc ls (.int y :: .int x :: st) h c z := by
  subst hp
  refine am_go G hf ?_
  exact ⟨hr, k⟩
theorem r_copy {a b n0 n1 : Nat} {f g : Nat → Int32} {n dp sp : Int32} (G : am_GK K cd) (hf : am_fetch cd pc = am_copy) (hp : pc + 3 = pn) (ha : h[a]? = some (.inl (.int, n1, .inl g))) (hb : h[b]? = some (.inl (.int, n0, .inl f))) (hr : am_rest st) (h1 : ¬ sp < 0) (h2 : ¬ dp < 0) (h3 : ¬ n < 0) (h4 : sp.toNatClampNeg + n.toNatClampNeg ≤ n0) (h5 : dp.toNatClampNeg + n.toNatClampNeg ≤ n1) (k : am_Go K (am_fetch cd) Q pn ls (st) (h.set a (.inl (.int, n1, .inl (va_cpy f g sp.toNatClampNeg dp.toNatClampNeg n.toNatClampNeg)))) c z) : am_Go K (am_fetch cd) Q pc ls (.int n :: .int dp :: .ref a :: .int sp :: .ref b :: st) h c z := by
  subst hp
  refine am_go G hf ?_
  unfold am_copy; simp only [ha, hb]; exact ⟨trivial, trivial, hr, h1, h2, h3, h4, h5, k⟩
theorem r_ldcs {i : UInt32} (G : am_GK K cd) (hf : am_fetch cd pc = am_ldcs i) (hp : pc + 2 = pn)  (k : am_Go K (am_fetch cd) Q pn ls (.float i :: st) (h) c z) : am_Go K (am_fetch cd) Q pc ls (st) h c z := by
  subst hp
  refine am_go G hf ?_
  exact k
theorem r_ixof {x : Int32} {i : UInt32} (G : am_GK K cd) (hf : am_fetch cd pc = am_ixof) (hp : pc + 3 = pn) (hi : i = 1 ∨ i = 2 ∨ i = 3) (hx : 0 ≤ x ∧ x < 65536) (hr : am_rest st) (k : am_Go K (am_fetch cd) Q pn ls (.int (am_ixf x (am_txt i.toNat) 0) :: st) (h) c z) : am_Go K (am_fetch cd) Q pc ls (.int x :: .float i :: st) h c z := by
  subst hp
  refine am_go G hf ?_
  exact ⟨hi, hx, hr, k⟩
theorem r_slen {L : Nat} (G : am_GK K cd) (hf : am_fetch cd pc = am_slen L) (hp : pc + 1 = pn)  (k : am_Go K (am_fetch cd) Q pn ls (.int (Int32.ofNat L) :: st) (h) c z) : am_Go K (am_fetch cd) Q pc ls (.float 0 :: st) h c z := by
  subst hp
  refine am_go G hf ?_
  exact ⟨rfl, k⟩
theorem r_sld {L : Nat} {xs : Nat → Int32} {i : Int32} (G : am_GK K cd) (hf : am_fetch cd pc = am_sld L xs) (hp : pc + 1 = pn) (hi : vp_in i L) (k : am_Go K (am_fetch cd) Q pn ls (.int (xs i.toNatClampNeg) :: st) (h) c z) : am_Go K (am_fetch cd) Q pc ls (.int i :: .float 0 :: st) h c z := by
  subst hp
  refine am_go G hf ?_
  exact ⟨rfl, hi, k⟩
theorem r_new {ci N mc ms : Nat} {fs : List Value} (G : am_GK K cd) (hf : am_fetch cd pc = am_new ci N fs mc ms) (hp : pc + 3 = pn) (h1 : c + 1 ≤ mc) (h2 : z + N ≤ ms) (k : am_Go K (am_fetch cd) Q pn ls (.ref h.length :: st) (h ++ [.inr (ci, fs)]) (c + 1) (z + N)) : am_Go K (am_fetch cd) Q pc ls (st) h c z := by
  subst hp
  refine am_go G hf ?_
  exact ⟨h1, h2, k⟩
theorem r_newi {ty : FieldType} {mc ms : Nat} {n : Int32} (G : am_GK K cd) (hf : am_fetch cd pc = am_newi ty mc ms) (hp : pc + 2 = pn) (h0 : ¬ n < 0) (h3 : n.toNatClampNeg ≤ 65536) (h1 : c + 1 ≤ mc) (h2 : z + n.toNatClampNeg ≤ ms) (k : am_Go K (am_fetch cd) Q pn ls (.ref h.length :: st) (h ++ [.inl (ty, n.toNatClampNeg, .inl (fun _ => 0))]) (c + 1) (z + n.toNatClampNeg)) : am_Go K (am_fetch cd) Q pc ls (.int n :: st) h c z := by
  subst hp
  refine am_go G hf ?_
  exact ⟨h0, h3, h1, h2, k⟩
theorem r_newl {mc ms : Nat} {n : Int32} (G : am_GK K cd) (hf : am_fetch cd pc = am_newl mc ms) (hp : pc + 2 = pn) (h0 : ¬ n < 0) (h3 : n.toNatClampNeg ≤ 65536) (h1 : c + 1 ≤ mc) (h2 : z + n.toNatClampNeg ≤ ms) (k : am_Go K (am_fetch cd) Q pn ls (.ref h.length :: st) (h ++ [.inl (.long, n.toNatClampNeg, .inr (.inl (fun _ => 0)))]) (c + 1) (z + n.toNatClampNeg)) : am_Go K (am_fetch cd) Q pc ls (.int n :: st) h c z := by
  subst hp
  refine am_go G hf ?_
  exact ⟨h0, h3, h1, h2, k⟩
theorem r_newr {E : String} {mc ms : Nat} {n : Int32} (G : am_GK K cd) (hf : am_fetch cd pc = am_newr E mc ms) (hp : pc + 3 = pn) (h0 : ¬ n < 0) (h3 : n.toNatClampNeg ≤ 65536) (h1 : c + 1 ≤ mc) (h2 : z + n.toNatClampNeg ≤ ms) (k : am_Go K (am_fetch cd) Q pn ls (.ref h.length :: st) (h ++ [.inl (.object E, n.toNatClampNeg, .inr (.inr (.inr (.inr (fun _ => none)))))]) (c + 1) (z + n.toNatClampNeg)) : am_Go K (am_fetch cd) Q pc ls (.int n :: st) h c z := by
  subst hp
  refine am_go G hf ?_
  exact ⟨h0, h3, h1, h2, k⟩
theorem r_inv1 {a : Nat} {y ymc yms mc ms ci : Nat} {fs : List Value} (G : am_GK K cd) (hf : am_fetch cd pc = am_inv y 0 ci ymc yms mc ms) (hp : pc + 3 = pn) (ha : h[a]? = some (.inr (ci, fs))) (hr : am_rest st) (h1 : c + ymc ≤ mc) (h2 : z + yms ≤ ms) (k : K y [.ref a] h (fun v h' => am_Go K (am_fetch cd) Q pn ls (v.toList ++ st) h' (c + ymc) (z + yms))) : am_Go K (am_fetch cd) Q pc ls (.ref a :: st) h c z := by
  subst hp
  refine am_go G hf ?_
  unfold am_inv
  exact ⟨by simp, hr, h1, h2, by simp [ha], k⟩
theorem r_inv2 {a : Nat} {v1 : Value} {y ymc yms mc ms ci : Nat} {fs : List Value} (G : am_GK K cd) (hf : am_fetch cd pc = am_inv y 1 ci ymc yms mc ms) (hp : pc + 3 = pn) (ha : h[a]? = some (.inr (ci, fs))) (hr : am_rest st) (h1 : c + ymc ≤ mc) (h2 : z + yms ≤ ms) (k : K y [.ref a, v1] h (fun v h' => am_Go K (am_fetch cd) Q pn ls (v.toList ++ st) h' (c + ymc) (z + yms))) : am_Go K (am_fetch cd) Q pc ls (v1 :: .ref a :: st) h c z := by
  subst hp
  refine am_go G hf ?_
  unfold am_inv
  exact ⟨by simp, hr, h1, h2, by simp [ha], k⟩
theorem r_inv3 {a : Nat} {v1 v2 : Value} {y ymc yms mc ms ci : Nat} {fs : List Value} (G : am_GK K cd) (hf : am_fetch cd pc = am_inv y 2 ci ymc yms mc ms) (hp : pc + 3 = pn) (ha : h[a]? = some (.inr (ci, fs))) (hr : am_rest st) (h1 : c + ymc ≤ mc) (h2 : z + yms ≤ ms) (k : K y [.ref a, v1, v2] h (fun v h' => am_Go K (am_fetch cd) Q pn ls (v.toList ++ st) h' (c + ymc) (z + yms))) : am_Go K (am_fetch cd) Q pc ls (v2 :: v1 :: .ref a :: st) h c z := by
  subst hp
  refine am_go G hf ?_
  unfold am_inv
  exact ⟨by simp, hr, h1, h2, by simp [ha], k⟩
theorem r_inv4 {a : Nat} {v1 v2 v3 : Value} {y ymc yms mc ms ci : Nat} {fs : List Value} (G : am_GK K cd) (hf : am_fetch cd pc = am_inv y 3 ci ymc yms mc ms) (hp : pc + 3 = pn) (ha : h[a]? = some (.inr (ci, fs))) (hr : am_rest st) (h1 : c + ymc ≤ mc) (h2 : z + yms ≤ ms) (k : K y [.ref a, v1, v2, v3] h (fun v h' => am_Go K (am_fetch cd) Q pn ls (v.toList ++ st) h' (c + ymc) (z + yms))) : am_Go K (am_fetch cd) Q pc ls (v3 :: v2 :: v1 :: .ref a :: st) h c z := by
  subst hp
  refine am_go G hf ?_
  unfold am_inv
  exact ⟨by simp, hr, h1, h2, by simp [ha], k⟩
theorem r_inv5 {a : Nat} {v1 v2 v3 v4 : Value} {y ymc yms mc ms ci : Nat} {fs : List Value} (G : am_GK K cd) (hf : am_fetch cd pc = am_inv y 4 ci ymc yms mc ms) (hp : pc + 3 = pn) (ha : h[a]? = some (.inr (ci, fs))) (hr : am_rest st) (h1 : c + ymc ≤ mc) (h2 : z + yms ≤ ms) (k : K y [.ref a, v1, v2, v3, v4] h (fun v h' => am_Go K (am_fetch cd) Q pn ls (v.toList ++ st) h' (c + ymc) (z + yms))) : am_Go K (am_fetch cd) Q pc ls (v4 :: v3 :: v2 :: v1 :: .ref a :: st) h c z := by
  subst hp
  refine am_go G hf ?_
  unfold am_inv
  exact ⟨by simp, hr, h1, h2, by simp [ha], k⟩
theorem r_inv6 {a : Nat} {v1 v2 v3 v4 v5 : Value} {y ymc yms mc ms ci : Nat} {fs : List Value} (G : am_GK K cd) (hf : am_fetch cd pc = am_inv y 5 ci ymc yms mc ms) (hp : pc + 3 = pn) (ha : h[a]? = some (.inr (ci, fs))) (hr : am_rest st) (h1 : c + ymc ≤ mc) (h2 : z + yms ≤ ms) (k : K y [.ref a, v1, v2, v3, v4, v5] h (fun v h' => am_Go K (am_fetch cd) Q pn ls (v.toList ++ st) h' (c + ymc) (z + yms))) : am_Go K (am_fetch cd) Q pc ls (v5 :: v4 :: v3 :: v2 :: v1 :: .ref a :: st) h c z := by
  subst hp
  refine am_go G hf ?_
  unfold am_inv
  exact ⟨by simp, hr, h1, h2, by simp [ha], k⟩
theorem r_inm1 {a : Nat} {y ymc yms mc ms : Nat} (G : am_GK K cd) (hf : am_fetch cd pc = am_inm y 0 ymc yms mc ms) (hp : pc + 3 = pn)  (hr : am_rest st) (h1 : c + ymc ≤ mc) (h2 : z + yms ≤ ms) (k : K y [.ref a] h (fun v h' => am_Go K (am_fetch cd) Q pn ls (v.toList ++ st) h' (c + ymc) (z + yms))) : am_Go K (am_fetch cd) Q pc ls (.ref a :: st) h c z := by
  subst hp
  refine am_go G hf ?_
  unfold am_inm
  exact ⟨by simp, hr, h1, h2, by simp, k⟩
theorem r_inm2 {a : Nat} {v1 : Value} {y ymc yms mc ms : Nat} (G : am_GK K cd) (hf : am_fetch cd pc = am_inm y 1 ymc yms mc ms) (hp : pc + 3 = pn)  (hr : am_rest st) (h1 : c + ymc ≤ mc) (h2 : z + yms ≤ ms) (k : K y [.ref a, v1] h (fun v h' => am_Go K (am_fetch cd) Q pn ls (v.toList ++ st) h' (c + ymc) (z + yms))) : am_Go K (am_fetch cd) Q pc ls (v1 :: .ref a :: st) h c z := by
  subst hp
  refine am_go G hf ?_
  unfold am_inm
  exact ⟨by simp, hr, h1, h2, by simp, k⟩
theorem r_ins1 {v0 : Value} {y ymc yms mc ms : Nat} (G : am_GK K cd) (hf : am_fetch cd pc = am_ins y 1 ymc yms mc ms) (hp : pc + 3 = pn)  (hr : am_rest st) (h1 : c + ymc ≤ mc) (h2 : z + yms ≤ ms) (k : K y [v0] h (fun v h' => am_Go K (am_fetch cd) Q pn ls (v.toList ++ st) h' (c + ymc) (z + yms))) : am_Go K (am_fetch cd) Q pc ls (v0 :: st) h c z := by
  subst hp
  refine am_go G hf ?_
  unfold am_ins
  exact ⟨by simp, hr, h1, h2, k⟩
theorem r_ins2 {v0 v1 : Value} {y ymc yms mc ms : Nat} (G : am_GK K cd) (hf : am_fetch cd pc = am_ins y 2 ymc yms mc ms) (hp : pc + 3 = pn)  (hr : am_rest st) (h1 : c + ymc ≤ mc) (h2 : z + yms ≤ ms) (k : K y [v0, v1] h (fun v h' => am_Go K (am_fetch cd) Q pn ls (v.toList ++ st) h' (c + ymc) (z + yms))) : am_Go K (am_fetch cd) Q pc ls (v1 :: v0 :: st) h c z := by
  subst hp
  refine am_go G hf ?_
  unfold am_ins
  exact ⟨by simp, hr, h1, h2, k⟩
theorem r_ins3 {v0 v1 v2 : Value} {y ymc yms mc ms : Nat} (G : am_GK K cd) (hf : am_fetch cd pc = am_ins y 3 ymc yms mc ms) (hp : pc + 3 = pn)  (hr : am_rest st) (h1 : c + ymc ≤ mc) (h2 : z + yms ≤ ms) (k : K y [v0, v1, v2] h (fun v h' => am_Go K (am_fetch cd) Q pn ls (v.toList ++ st) h' (c + ymc) (z + yms))) : am_Go K (am_fetch cd) Q pc ls (v2 :: v1 :: v0 :: st) h c z := by
  subst hp
  refine am_go G hf ?_
  unfold am_ins
  exact ⟨by simp, hr, h1, h2, k⟩
end
