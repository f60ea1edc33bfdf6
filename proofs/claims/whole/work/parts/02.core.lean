/-! The abstract machine: cells by number from a base on, predicate transformers per instruction, the least fixpoint of a method's code. -/
abbrev am_C : Type := (FieldType × vp_A) ⊕ (Nat × List Value)
abbrev am_H : Type := List am_C
abbrev am_L : Type := List (Option Value)
abbrev am_X : Type := Nat → am_L → List Value → am_H → Nat → Nat → Prop
abbrev am_Q : Type := Option Value → am_H → Prop
abbrev am_K : Type := Nat → List Value → am_H → am_Q → Prop
abbrev am_T : Type := am_K → am_Q → am_X → am_X
/-- the least fixpoint -/
def am_Go (K : am_K) (code : Nat → am_T) (Q : am_Q) : am_X := fun pc ls st h c z =>
  ∀ X : am_X, (∀ pc ls st h c z, code pc K Q X pc ls st h c z → X pc ls st h c z) → X pc ls st h c z
/-- calls keep what follows -/
def am_KM (K : am_K) : Prop := ∀ (y : Nat) (As : List Value) (h : am_H) (Q Q' : am_Q), (∀ v h', Q v h' → Q' v h') → K y As h Q → K y As h Q'
def am_TM (T : am_T) : Prop := ∀ (K : am_K), am_KM K → ∀ (Q Q' : am_Q), (∀ v h', Q v h' → Q' v h') → ∀ (X X' : am_X), (∀ pc ls st h c z, X pc ls st h c z → X' pc ls st h c z) → ∀ pc ls st h c z, T K Q X pc ls st h c z → T K Q' X' pc ls st h c z
theorem am_Go_into {K : am_K} {code : Nat → am_T} {Q : am_Q} (hK : am_KM K) (hM : ∀ pc, am_TM (code pc)) {pc : Nat} {ls : am_L} {st : List Value} {h : am_H} {c z : Nat} (hF : code pc K Q (am_Go K code Q) pc ls st h c z) : am_Go K code Q pc ls st h c z := by
  intro X hX
  refine hX _ _ _ _ _ _ (hM pc K hK Q Q (fun _ _ q => q) _ X (fun pc ls st h c z g => g X hX) _ _ _ _ _ _ hF)
theorem am_Go_iff {K : am_K} {code : Nat → am_T} {Q : am_Q} (hK : am_KM K) (hM : ∀ pc, am_TM (code pc)) (pc : Nat) (ls : am_L) (st : List Value) (h : am_H) (c z : Nat) : am_Go K code Q pc ls st h c z ↔ code pc K Q (am_Go K code Q) pc ls st h c z := by
  refine ⟨fun g => ?_, am_Go_into hK hM⟩
  refine g (fun pc ls st h c z => code pc K Q (am_Go K code Q) pc ls st h c z) (fun pc ls st h c z q => ?_)
  exact hM pc K hK Q Q (fun _ _ q => q) _ _ (fun _ _ _ _ _ _ q => am_Go_into hK hM q) _ _ _ _ _ _ q
theorem am_Go_mono {K : am_K} {code : Nat → am_T} {Q Q' : am_Q} (hK : am_KM K) (hM : ∀ pc, am_TM (code pc)) (hQ : ∀ v h', Q v h' → Q' v h') {pc : Nat} {ls : am_L} {st : List Value} {h : am_H} {c z : Nat} (g : am_Go K code Q pc ls st h c z) : am_Go K code Q' pc ls st h c z := by
  refine g (am_Go K code Q') (fun pc ls st h c z q => am_Go_into hK hM ?_)
  exact hM pc K hK Q Q' hQ _ _ (fun _ _ _ _ _ _ q => q) _ _ _ _ _ _ q
/-- locals -/
def am_kl (d : Option Value) : Option Value := match d with
  | some (.long _) => none
  | some (.double _) => none
  | x => x
def am_al (ls : am_L) (i : Nat) : Option Value := ls.getD i none
def am_s1 (ls : am_L) (i : Nat) (v : Value) : am_L := (ls.set (i - 1) (am_kl (ls.getD (i - 1) none))).set i (some v)
def am_s2 (ls : am_L) (i : Nat) (v : Value) : am_L := ((ls.set (i - 1) (am_kl (ls.getD (i - 1) none))).set i (some v)).set (i + 1) none
/-- the entry: the arguments, a long takes two places -/
def am_ent : List Value → am_L
  | [] => []
  | v :: vs => if v.category = 2 then some v :: none :: am_ent vs else some v :: am_ent vs
def am_ini (n : Nat) (As : List Value) : am_L := am_ent As ++ List.replicate (n - (am_ent As).length) none
/-- the instructions, as transformers; P pc: what comes next -/
def am_ic (v : Int32) (len : Nat) : am_T := fun _ _ X pc ls st h c z => X (pc + len) ls (.int v :: st) h c z
def am_lc (v : Int64) (len : Nat) : am_T := fun _ _ X pc ls st h c z => X (pc + len) ls (.long v :: st) h c z
def am_il (i len : Nat) : am_T := fun _ _ X pc ls st h c z => match am_al ls i with
  | some (.int x) => X (pc + len) ls (.int x :: st) h c z
  | _ => False
def am_ll (i len : Nat) : am_T := fun _ _ X pc ls st h c z => match am_al ls i with
  | some (.long x) => X (pc + len) ls (.long x :: st) h c z
  | _ => False
def am_ra (i len : Nat) : am_T := fun _ _ X pc ls st h c z => match am_al ls i with
  | some (.ref x) => X (pc + len) ls (.ref x :: st) h c z
  | some (.float x) => X (pc + len) ls (.float x :: st) h c z
  | _ => False
def am_is (i len : Nat) : am_T := fun _ _ X pc ls st h c z => match st with
  | .int x :: r => i < ls.length ∧ X (pc + len) (am_s1 ls i (.int x)) r h c z
  | _ => False
def am_ls (i len : Nat) : am_T := fun _ _ X pc ls st h c z => match st with
  | .long x :: r => i + 1 < ls.length ∧ X (pc + len) (am_s2 ls i (.long x)) r h c z
  | _ => False
def am_rs (i len : Nat) : am_T := fun _ _ X pc ls st h c z => match st with
  | .ref x :: r => i < ls.length ∧ X (pc + len) (am_s1 ls i (.ref x)) r h c z
  | _ => False
def am_inc (i : Nat) (n : Int32) : am_T := fun _ _ X pc ls st h c z => match am_al ls i with
  | some (.int x) => i < ls.length ∧ X (pc + 3) (am_s1 ls i (.int (x + n))) st h c z
  | _ => False
def am_ib (f : Int32 → Int32 → Int32) : am_T := fun _ _ X pc ls st h c z => match st with
  | .int y :: .int x :: r => X (pc + 1) ls (.int (f x y) :: r) h c z
  | _ => False
def am_idiv : am_T := fun _ _ X pc ls st h c z => match st with
  | .int y :: .int x :: r => ¬ y = 0 ∧ X (pc + 1) ls (.int (x / y) :: r) h c z
  | _ => False
def am_irem : am_T := fun _ _ X pc ls st h c z => match st with
  | .int y :: .int x :: r => ¬ y = 0 ∧ X (pc + 1) ls (.int (x - x / y * y) :: r) h c z
  | _ => False
def am_lb (f : Int64 → Int64 → Int64) : am_T := fun _ _ X pc ls st h c z => match st with
  | .long y :: .long x :: r => X (pc + 1) ls (.long (f x y) :: r) h c z
  | _ => False
def am_lsh (f : Int64 → Int32 → Int64) : am_T := fun _ _ X pc ls st h c z => match st with
  | .int y :: .long x :: r => X (pc + 1) ls (.long (f x y) :: r) h c z
  | _ => False
def am_lcmp : am_T := fun _ _ X pc ls st h c z => match st with
  | .long y :: .long x :: r => X (pc + 1) ls (.int (lg_cmp x y) :: r) h c z
  | _ => False
def am_i2l : am_T := fun _ _ X pc ls st h c z => match st with
  | .int x :: r => X (pc + 1) ls (.long x.toInt64 :: r) h c z
  | _ => False
def am_l2i : am_T := fun _ _ X pc ls st h c z => match st with
  | .long x :: r => X (pc + 1) ls (.int x.toInt32 :: r) h c z
  | _ => False
def am_i2c : am_T := fun _ _ X pc ls st h c z => match st with
  | .int x :: r => X (pc + 1) ls (.int (x.toUInt32 % 65536).toInt32 :: r) h c z
  | _ => False
def am_dup : am_T := fun _ _ X pc ls st h c z => match st with
  | v :: r => v.category = 1 ∧ X (pc + 1) ls (v :: v :: r) h c z
  | _ => False
def am_pop : am_T := fun _ _ X pc ls st h c z => match st with
  | v :: r => v.category = 1 ∧ X (pc + 1) ls r h c z
  | _ => False
def am_if1 (P : Int32 → Prop) (tgt : Nat) : am_T := fun _ _ X pc ls st h c z => match st with
  | .int x :: r => (P x → X tgt ls r h c z) ∧ (¬ P x → X (pc + 3) ls r h c z)
  | _ => False
def am_if2 (P : Int32 → Int32 → Prop) (tgt : Nat) : am_T := fun _ _ X pc ls st h c z => match st with
  | .int y :: .int x :: r => (P x y → X tgt ls r h c z) ∧ (¬ P x y → X (pc + 3) ls r h c z)
  | _ => False
def am_goto (tgt : Nat) : am_T := fun _ _ X _ ls st h c z => X tgt ls st h c z
def am_iret (ty : FieldType) : am_T := fun _ Q _ _ _ st h _ _ => match st with
  | [.int x] => narrow ty (.int x) = .int x ∧ Q (some (.int x)) h
  | _ => False
def am_lret : am_T := fun _ Q _ _ _ st h _ _ => match st with
  | [.long x] => Q (some (.long x)) h
  | _ => False
def am_vret : am_T := fun _ Q _ _ _ st h _ _ => match st with
  | [] => Q none h
  | _ => False
/-- fields and arrays -/
def am_get (ci k : Nat) : am_T := fun _ _ X pc ls st h c z => match st with
  | .ref a :: r => match h[a]? with
    | some (.inr (d, fs)) => d = ci ∧ match fs[k]? with
      | some v => X (pc + 3) ls (v :: r) h c z
      | none => False
    | _ => False
  | _ => False
def am_put (ci k : Nat) (ty : FieldType) : am_T := fun _ _ X pc ls st h c z => match st with
  | v :: .ref a :: r => match h[a]? with
    | some (.inr (d, fs)) => d = ci ∧ k < fs.length ∧ (match v with | .float _ => False | _ => True) ∧ narrow ty v = v ∧ fits ty v = true ∧ X (pc + 3) ls r (h.set a (.inr (d, fs.set k v))) c z
    | _ => False
  | _ => False
def am_iald : am_T := fun _ _ X pc ls st h c z => match st with
  | .int i :: .ref a :: r => match h[a]? with
    | some (.inl (ty, n, .inl f)) => ty = .int ∧ vp_in i n ∧ X (pc + 1) ls (.int (f i.toNatClampNeg) :: r) h c z
    | _ => False
  | _ => False
def am_cald : am_T := fun _ _ X pc ls st h c z => match st with
  | .int i :: .ref a :: r => match h[a]? with
    | some (.inl (ty, n, .inl f)) => ty = .char ∧ vp_in i n ∧ X (pc + 1) ls (.int (f i.toNatClampNeg) :: r) h c z
    | _ => False
  | _ => False
def am_lald : am_T := fun _ _ X pc ls st h c z => match st with
  | .int i :: .ref a :: r => match h[a]? with
    | some (.inl (ty, n, .inr (.inl f))) => ty = .long ∧ vp_in i n ∧ X (pc + 1) ls (.long (f i.toNatClampNeg) :: r) h c z
    | _ => False
  | _ => False
def am_iast : am_T := fun _ _ X pc ls st h c z => match st with
  | .int x :: .int i :: .ref a :: r => match h[a]? with
    | some (.inl (ty, n, .inl f)) => ty = .int ∧ vp_in i n ∧ X (pc + 1) ls r (h.set a (.inl (ty, n, .inl (upd f i.toNatClampNeg x)))) c z
    | _ => False
  | _ => False
def am_cast : am_T := fun _ _ X pc ls st h c z => match st with
  | .int x :: .int i :: .ref a :: r => match h[a]? with
    | some (.inl (ty, n, .inl f)) => ty = .char ∧ vp_in i n ∧ X (pc + 1) ls r (h.set a (.inl (ty, n, .inl (upd f i.toNatClampNeg (vp_nar .char x))))) c z
    | _ => False
  | _ => False
def am_last : am_T := fun _ _ X pc ls st h c z => match st with
  | .long x :: .int i :: .ref a :: r => match h[a]? with
    | some (.inl (ty, n, .inr (.inl f))) => ty = .long ∧ vp_in i n ∧ X (pc + 1) ls r (h.set a (.inl (ty, n, .inr (.inl (vp_updL f i.toNatClampNeg x))))) c z
    | _ => False
  | _ => False
def am_rald (ty0 : FieldType) : am_T := fun _ _ X pc ls st h c z => match st with
  | .int i :: .ref a :: r => match h[a]? with
    | some (.inl (ty, n, .inr (.inr (.inr (.inr f))))) => ty = ty0 ∧ vp_in i n ∧ X (pc + 1) ls (va_rf (f i.toNatClampNeg) :: r) h c z
    | _ => False
  | _ => False
def am_rast (ci : Nat) (E : String) : am_T := fun _ _ X pc ls st h c z => match st with
  | .ref v :: .int i :: .ref a :: r => match h[a]? with
    | some (.inl (ty, n, .inr (.inr (.inr (.inr f))))) => ty = .object E ∧ vp_in i n ∧ (match h[v]? with | some (.inr (d, _)) => d = ci | _ => False) ∧ X (pc + 1) ls r (h.set a (.inl (ty, n, .inr (.inr (.inr (.inr (va_up f i.toNatClampNeg (some v)))))))) c z
    | _ => False
  | _ => False
def am_len : am_T := fun _ _ X pc ls st h c z => match st with
  | .ref a :: r => match h[a]? with
    | some (.inl (ty, n, _)) => ty = .int ∧ X (pc + 1) ls (.int (Int32.ofNat n) :: r) h c z
    | _ => False
  | _ => False
/-- making cells; mc, ms: what the method may make -/
def am_new (ci N : Nat) (fs : List Value) (mc ms : Nat) : am_T := fun _ _ X pc ls st h c z => c + 1 ≤ mc ∧ z + N ≤ ms ∧ X (pc + 3) ls (.ref h.length :: st) (h ++ [.inr (ci, fs)]) (c + 1) (z + N)
def am_newi (ty : FieldType) (mc ms : Nat) : am_T := fun _ _ X pc ls st h c z => match st with
  | .int n :: r => ¬ n < 0 ∧ n.toNatClampNeg ≤ 65536 ∧ c + 1 ≤ mc ∧ z + n.toNatClampNeg ≤ ms ∧ X (pc + 2) ls (.ref h.length :: r) (h ++ [.inl (ty, n.toNatClampNeg, .inl (fun _ => 0))]) (c + 1) (z + n.toNatClampNeg)
  | _ => False
def am_newl (mc ms : Nat) : am_T := fun _ _ X pc ls st h c z => match st with
  | .int n :: r => ¬ n < 0 ∧ n.toNatClampNeg ≤ 65536 ∧ c + 1 ≤ mc ∧ z + n.toNatClampNeg ≤ ms ∧ X (pc + 2) ls (.ref h.length :: r) (h ++ [.inl (.long, n.toNatClampNeg, .inr (.inl (fun _ => 0)))]) (c + 1) (z + n.toNatClampNeg)
  | _ => False
def am_newr (E : String) (mc ms : Nat) : am_T := fun _ _ X pc ls st h c z => match st with
  | .int n :: r => ¬ n < 0 ∧ n.toNatClampNeg ≤ 65536 ∧ c + 1 ≤ mc ∧ z + n.toNatClampNeg ≤ ms ∧ X (pc + 3) ls (.ref h.length :: r) (h ++ [.inl (.object E, n.toNatClampNeg, .inr (.inr (.inr (.inr (fun _ => none)))))]) (c + 1) (z + n.toNatClampNeg)
  | _ => False
/-- int[n][k]: the outer array, then its rows -/
def am_newm (mc ms : Nat) : am_T := fun _ _ X pc ls st h c z => match st with
  | .int k :: .int n :: r => ¬ n < 0 ∧ ¬ k < 0 ∧ n.toNatClampNeg ≤ 4096 ∧ k.toNatClampNeg ≤ 4096 ∧ c + (1 + n.toNatClampNeg) ≤ mc ∧ z + (n.toNatClampNeg + n.toNatClampNeg * k.toNatClampNeg) ≤ ms ∧
      X (pc + 4) ls (.ref h.length :: r) (h ++ (.inl (.array .int, n.toNatClampNeg, .inr (.inr (.inr (.inr (fun i => if i < n.toNatClampNeg then some (h.length + 1 + i) else none))))) :: List.replicate n.toNatClampNeg (.inl (.int, k.toNatClampNeg, .inl (fun _ => 0))))) (c + 1 + n.toNatClampNeg) (z + n.toNatClampNeg + n.toNatClampNeg * k.toNatClampNeg)
  | _ => False
/-- calls: the method's number, how many values it takes (the receiver among them), the receiver's kind, the room that it takes -/
def am_rest (st : List Value) : Prop := (st.map fun v => v.category).sum ≤ 8
def am_inv (y n ci ymc yms mc ms : Nat) : am_T := fun K _ X pc ls st h c z =>
  n < st.length ∧ am_rest (st.drop (n + 1)) ∧ c + ymc ≤ mc ∧ z + yms ≤ ms ∧ (match st[n]? with
    | some (.ref a) => (match h[a]? with | some (.inr (d, _)) => d = ci | _ => False)
    | _ => False) ∧ K y ((st.take (n + 1)).reverse) h (fun v h' => X (pc + 3) ls (v.toList ++ st.drop (n + 1)) h' (c + ymc) (z + yms))
def am_inm (y n ymc yms mc ms : Nat) : am_T := fun K _ X pc ls st h c z =>
  n < st.length ∧ am_rest (st.drop (n + 1)) ∧ c + ymc ≤ mc ∧ z + yms ≤ ms ∧ (match st[n]? with | some (.ref _) => True | _ => False) ∧
  K y ((st.take (n + 1)).reverse) h (fun v h' => X (pc + 3) ls (v.toList ++ st.drop (n + 1)) h' (c + ymc) (z + yms))
def am_ins (y n ymc yms mc ms : Nat) : am_T := fun K _ X pc ls st h c z =>
  n ≤ st.length ∧ am_rest (st.drop n) ∧ c + ymc ≤ mc ∧ z + yms ≤ ms ∧
  K y ((st.take n).reverse) h (fun v h' => X (pc + 3) ls (v.toList ++ st.drop n) h' (c + ymc) (z + yms))
def am_obj : am_T := fun _ _ X pc ls st h c z => match st with
  | .ref _ :: r => am_rest r ∧ X (pc + 3) ls r h c z
  | _ => False
def am_max : am_T := fun _ _ X pc ls st h c z => match st with
  | .int y :: .int x :: r => am_rest r ∧ X (pc + 3) ls (.int (if x < y then y else x) :: r) h c z
  | _ => False
def am_min : am_T := fun _ _ X pc ls st h c z => match st with
  | .int y :: .int x :: r => am_rest r ∧ X (pc + 3) ls (.int (if y < x then y else x) :: r) h c z
  | _ => False
def am_copy : am_T := fun _ _ X pc ls st h c z => match st with
  | .int n :: .int dp :: .ref a :: .int sp :: .ref b :: r => match h[a]?, h[b]? with
    | some (.inl (ty, n1, .inl g)), some (.inl (ty0, n0, .inl f)) => ty = .int ∧ ty0 = .int ∧ am_rest r ∧ ¬ sp < 0 ∧ ¬ dp < 0 ∧ ¬ n < 0 ∧ sp.toNatClampNeg + n.toNatClampNeg ≤ n0 ∧ dp.toNatClampNeg + n.toNatClampNeg ≤ n1 ∧
        X (pc + 3) ls r (h.set a (.inl (ty, n1, .inl (va_cpy f g sp.toNatClampNeg dp.toNatClampNeg n.toNatClampNeg)))) c z
    | _, _ => False
  | _ => False
def am_no : am_T := fun _ _ _ _ _ _ _ _ _ => False
/-- constants of text, by number; the first place of a number in a text -/
def am_ldcs (i : UInt32) : am_T := fun _ _ X pc ls st h c z => X (pc + 2) ls (.float i :: st) h c z
def am_ixf (x : Int32) : List Int32 → Nat → Int32
  | [], _ => -1
  | y :: r, k => if y = x then nI k else am_ixf x r (k + 1)
def am_txt (i : Nat) : List Int32 := match i with
  | 1 => [72, 79, 78, 67]
  | 2 => [45, 61, 35]
  | 3 => [49, 50]
  | _ => []
def am_ixof : am_T := fun _ _ X pc ls st h c z => match st with
  | .int x :: .float i :: r => (i = 1 ∨ i = 2 ∨ i = 3) ∧ (0 ≤ x ∧ x < 65536) ∧ am_rest r ∧ X (pc + 3) ls (.int (am_ixf x (am_txt i.toNat) 0) :: r) h c z
  | _ => False
/-- the script -/
def am_slen (L : Nat) : am_T := fun _ _ X pc ls st h c z => match st with
  | .float i :: r => i = 0 ∧ X (pc + 1) ls (.int (Int32.ofNat L) :: r) h c z
  | _ => False
def am_sld (L : Nat) (xs : Nat → Int32) : am_T := fun _ _ X pc ls st h c z => match st with
  | .int i :: .float u :: r => u = 0 ∧ vp_in i L ∧ X (pc + 1) ls (.int (xs i.toNatClampNeg) :: r) h c z
  | _ => False
def am_tsw (d lo hi : Nat) (tg : List Nat) : am_T := fun _ _ X _ ls st h c z => match st with
  | .int x :: r => ((x.toInt < (lo : Int) ∨ (hi : Int) < x.toInt) → X d ls r h c z) ∧ (∀ k : Nat, k < tg.length → x.toInt = (lo : Int) + k → X (tg.getD k 0) ls r h c z)
  | _ => False
def am_fetch : List (Nat × am_T) → Nat → am_T
  | [], _ => am_no
  | q :: r, pc => if q.1 = pc then q.2 else am_fetch r pc
