theorem am_and {A B C : Prop} (h : B → C) : A ∧ B → A ∧ C := fun q => ⟨q.1, h q.2⟩
theorem am_bra {P A B A' B' : Prop} (h : A → A') (g : B → B') : (P → A) ∧ (¬ P → B) → (P → A') ∧ (¬ P → B') := fun q => ⟨fun a => h (q.1 a), fun a => g (q.2 a)⟩
theorem am_ic_m (v : Int32) (len : Nat) : am_TM (am_ic v len) := by
  intro K hK Q Q' hQ X X' hX pc ls st h c z
  unfold am_ic
  repeat' split
  all_goals repeat' (first | exact fun q => hX _ _ _ _ _ _ q | exact fun q => hQ _ _ q | exact fun q => q | refine am_bra ?_ ?_ | refine am_and ?_ | exact fun q => hK _ _ _ _ _ (fun v h' q => hX _ _ _ _ _ _ q) q | split)
theorem am_lc_m (v : Int64) (len : Nat) : am_TM (am_lc v len) := by
  intro K hK Q Q' hQ X X' hX pc ls st h c z
  unfold am_lc
  repeat' split
  all_goals repeat' (first | exact fun q => hX _ _ _ _ _ _ q | exact fun q => hQ _ _ q | exact fun q => q | refine am_bra ?_ ?_ | refine am_and ?_ | exact fun q => hK _ _ _ _ _ (fun v h' q => hX _ _ _ _ _ _ q) q | split)
theorem am_il_m (i len : Nat) : am_TM (am_il i len) := by
  intro K hK Q Q' hQ X X' hX pc ls st h c z
  unfold am_il
  repeat' split
  all_goals repeat' (first | exact fun q => hX _ _ _ _ _ _ q | exact fun q => hQ _ _ q | exact fun q => q | refine am_bra ?_ ?_ | refine am_and ?_ | exact fun q => hK _ _ _ _ _ (fun v h' q => hX _ _ _ _ _ _ q) q | split)
theorem am_ll_m (i len : Nat) : am_TM (am_ll i len) := by
  intro K hK Q Q' hQ X X' hX pc ls st h c z
  unfold am_ll
  repeat' split
  all_goals repeat' (first | exact fun q => hX _ _ _ _ _ _ q | exact fun q => hQ _ _ q | exact fun q => q | refine am_bra ?_ ?_ | refine am_and ?_ | exact fun q => hK _ _ _ _ _ (fun v h' q => hX _ _ _ _ _ _ q) q | split)
theorem am_ra_m (i len : Nat) : am_TM (am_ra i len) := by
  intro K hK Q Q' hQ X X' hX pc ls st h c z
  unfold am_ra
  repeat' split
  all_goals repeat' (first | exact fun q => hX _ _ _ _ _ _ q | exact fun q => hQ _ _ q | exact fun q => q | refine am_bra ?_ ?_ | refine am_and ?_ | exact fun q => hK _ _ _ _ _ (fun v h' q => hX _ _ _ _ _ _ q) q | split)
theorem am_is_m (i len : Nat) : am_TM (am_is i len) := by
  intro K hK Q Q' hQ X X' hX pc ls st h c z
  unfold am_is
  repeat' split
  all_goals repeat' (first | exact fun q => hX _ _ _ _ _ _ q | exact fun q => hQ _ _ q | exact fun q => q | refine am_bra ?_ ?_ | refine am_and ?_ | exact fun q => hK _ _ _ _ _ (fun v h' q => hX _ _ _ _ _ _ q) q | split)
theorem am_ls_m (i len : Nat) : am_TM (am_ls i len) := by
  intro K hK Q Q' hQ X X' hX pc ls st h c z
  unfold am_ls
  repeat' split
  all_goals repeat' (first | exact fun q => hX _ _ _ _ _ _ q | exact fun q => hQ _ _ q | exact fun q => q | refine am_bra ?_ ?_ | refine am_and ?_ | exact fun q => hK _ _ _ _ _ (fun v h' q => hX _ _ _ _ _ _ q) q | split)
theorem am_rs_m (i len : Nat) : am_TM (am_rs i len) := by
  intro K hK Q Q' hQ X X' hX pc ls st h c z
  unfold am_rs
  repeat' split
  all_goals repeat' (first | exact fun q => hX _ _ _ _ _ _ q | exact fun q => hQ _ _ q | exact fun q => q | refine am_bra ?_ ?_ | refine am_and ?_ | exact fun q => hK _ _ _ _ _ (fun v h' q => hX _ _ _ _ _ _ q) q | split)
theorem am_inc_m (i : Nat) (n : Int32) : am_TM (am_inc i n) := by
  intro K hK Q Q' hQ X X' hX pc ls st h c z
  unfold am_inc
  repeat' split
  all_goals repeat' (first | exact fun q => hX _ _ _ _ _ _ q | exact fun q => hQ _ _ q | exact fun q => q | refine am_bra ?_ ?_ | refine am_and ?_ | exact fun q => hK _ _ _ _ _ (fun v h' q => hX _ _ _ _ _ _ q) q | split)
theorem am_ib_m (f : Int32 → Int32 → Int32) : am_TM (am_ib f) := by
  intro K hK Q Q' hQ X X' hX pc ls st h c z
  unfold am_ib
  repeat' split
  all_goals repeat' (first | exact fun q => hX _ _ _ _ _ _ q | exact fun q => hQ _ _ q | exact fun q => q | refine am_bra ?_ ?_ | refine am_and ?_ | exact fun q => hK _ _ _ _ _ (fun v h' q => hX _ _ _ _ _ _ q) q | split)
theorem am_idiv_m : am_TM (am_idiv) := by
  intro K hK Q Q' hQ X X' hX pc ls st h c z
  unfold am_idiv
  repeat' split
  all_goals repeat' (first | exact fun q => hX _ _ _ _ _ _ q | exact fun q => hQ _ _ q | exact fun q => q | refine am_bra ?_ ?_ | refine am_and ?_ | exact fun q => hK _ _ _ _ _ (fun v h' q => hX _ _ _ _ _ _ q) q | split)
theorem am_irem_m : am_TM (am_irem) := by
  intro K hK Q Q' hQ X X' hX pc ls st h c z
  unfold am_irem
  repeat' split
  all_goals repeat' (first | exact fun q => hX _ _ _ _ _ _ q | exact fun q => hQ _ _ q | exact fun q => q | refine am_bra ?_ ?_ | refine am_and ?_ | exact fun q => hK _ _ _ _ _ (fun v h' q => hX _ _ _ _ _ _ q) q | split)
theorem am_lb_m (f : Int64 → Int64 → Int64) : am_TM (am_lb f) := by
  intro K hK Q Q' hQ X X' hX pc ls st h c z
  unfold am_lb
  repeat' split
  all_goals repeat' (first | exact fun q => hX _ _ _ _ _ _ q | exact fun q => hQ _ _ q | exact fun q => q | refine am_bra ?_ ?_ | refine am_and ?_ | exact fun q => hK _ _ _ _ _ (fun v h' q => hX _ _ _ _ _ _ q) q | split)
theorem am_lsh_m (f : Int64 → Int32 → Int64) : am_TM (am_lsh f) := by
  intro K hK Q Q' hQ X X' hX pc ls st h c z
  unfold am_lsh
  repeat' split
  all_goals repeat' (first | exact fun q => hX _ _ _ _ _ _ q | exact fun q => hQ _ _ q | exact fun q => q | refine am_bra ?_ ?_ | refine am_and ?_ | exact fun q => hK _ _ _ _ _ (fun v h' q => hX _ _ _ _ _ _ q) q | split)
theorem am_lcmp_m : am_TM (am_lcmp) := by
  intro K hK Q Q' hQ X X' hX pc ls st h c z
  unfold am_lcmp
  repeat' split
  all_goals repeat' (first | exact fun q => hX _ _ _ _ _ _ q | exact fun q => hQ _ _ q | exact fun q => q | refine am_bra ?_ ?_ | refine am_and ?_ | exact fun q => hK _ _ _ _ _ (fun v h' q => hX _ _ _ _ _ _ q) q | split)
theorem am_i2l_m : am_TM (am_i2l) := by
  intro K hK Q Q' hQ X X' hX pc ls st h c z
  unfold am_i2l
  repeat' split
  all_goals repeat' (first | exact fun q => hX _ _ _ _ _ _ q | exact fun q => hQ _ _ q | exact fun q => q | refine am_bra ?_ ?_ | refine am_and ?_ | exact fun q => hK _ _ _ _ _ (fun v h' q => hX _ _ _ _ _ _ q) q | split)
theorem am_l2i_m : am_TM (am_l2i) := by
  intro K hK Q Q' hQ X X' hX pc ls st h c z
  unfold am_l2i
  repeat' split
  all_goals repeat' (first | exact fun q => hX _ _ _ _ _ _ q | exact fun q => hQ _ _ q | exact fun q => q | refine am_bra ?_ ?_ | refine am_and ?_ | exact fun q => hK _ _ _ _ _ (fun v h' q => hX _ _ _ _ _ _ q) q | split)
theorem am_i2c_m : am_TM (am_i2c) := by
  intro K hK Q Q' hQ X X' hX pc ls st h c z
  unfold am_i2c
  repeat' split
  all_goals repeat' (first | exact fun q => hX _ _ _ _ _ _ q | exact fun q => hQ _ _ q | exact fun q => q | refine am_bra ?_ ?_ | refine am_and ?_ | exact fun q => hK _ _ _ _ _ (fun v h' q => hX _ _ _ _ _ _ q) q | split)
theorem am_dup_m : am_TM (am_dup) := by
  intro K hK Q Q' hQ X X' hX pc ls st h c z
  unfold am_dup
  repeat' split
  all_goals repeat' (first | exact fun q => hX _ _ _ _ _ _ q | exact fun q => hQ _ _ q | exact fun q => q | refine am_bra ?_ ?_ | refine am_and ?_ | exact fun q => hK _ _ _ _ _ (fun v h' q => hX _ _ _ _ _ _ q) q | split)
theorem am_pop_m : am_TM (am_pop) := by
  intro K hK Q Q' hQ X X' hX pc ls st h c z
  unfold am_pop
  repeat' split
  all_goals repeat' (first | exact fun q => hX _ _ _ _ _ _ q | exact fun q => hQ _ _ q | exact fun q => q | refine am_bra ?_ ?_ | refine am_and ?_ | exact fun q => hK _ _ _ _ _ (fun v h' q => hX _ _ _ _ _ _ q) q | split)
theorem am_if1_m (P : Int32 → Prop) (tgt : Nat) : am_TM (am_if1 P tgt) := by
  intro K hK Q Q' hQ X X' hX pc ls st h c z
  unfold am_if1
  repeat' split
  all_goals repeat' (first | exact fun q => hX _ _ _ _ _ _ q | exact fun q => hQ _ _ q | exact fun q => q | refine am_bra ?_ ?_ | refine am_and ?_ | exact fun q => hK _ _ _ _ _ (fun v h' q => hX _ _ _ _ _ _ q) q | split)
theorem am_if2_m (P : Int32 → Int32 → Prop) (tgt : Nat) : am_TM (am_if2 P tgt) := by
  intro K hK Q Q' hQ X X' hX pc ls st h c z
  unfold am_if2
  repeat' split
  all_goals repeat' (first | exact fun q => hX _ _ _ _ _ _ q | exact fun q => hQ _ _ q | exact fun q => q | refine am_bra ?_ ?_ | refine am_and ?_ | exact fun q => hK _ _ _ _ _ (fun v h' q => hX _ _ _ _ _ _ q) q | split)
theorem am_goto_m (tgt : Nat) : am_TM (am_goto tgt) := by
  intro K hK Q Q' hQ X X' hX pc ls st h c z
  unfold am_goto
  repeat' split
  all_goals repeat' (first | exact fun q => hX _ _ _ _ _ _ q | exact fun q => hQ _ _ q | exact fun q => q | refine am_bra ?_ ?_ | refine am_and ?_ | exact fun q => hK _ _ _ _ _ (fun v h' q => hX _ _ _ _ _ _ q) q | split)
theorem am_iret_m (ty : FieldType) : am_TM (am_iret ty) := by
  intro K hK Q Q' hQ X X' hX pc ls st h c z
  unfold am_iret
  repeat' split
  all_goals repeat' (first | exact fun q => hX _ _ _ _ _ _ q | exact fun q => hQ _ _ q | exact fun q => q | refine am_bra ?_ ?_ | refine am_and ?_ | exact fun q => hK _ _ _ _ _ (fun v h' q => hX _ _ _ _ _ _ q) q | split)
theorem am_lret_m : am_TM (am_lret) := by
  intro K hK Q Q' hQ X X' hX pc ls st h c z
  unfold am_lret
  repeat' split
  all_goals repeat' (first | exact fun q => hX _ _ _ _ _ _ q | exact fun q => hQ _ _ q | exact fun q => q | refine am_bra ?_ ?_ | refine am_and ?_ | exact fun q => hK _ _ _ _ _ (fun v h' q => hX _ _ _ _ _ _ q) q | split)
theorem am_vret_m : am_TM (am_vret) := by
  intro K hK Q Q' hQ X X' hX pc ls st h c z
  unfold am_vret
  repeat' split
  all_goals repeat' (first | exact fun q => hX _ _ _ _ _ _ q | exact fun q => hQ _ _ q | exact fun q => q | refine am_bra ?_ ?_ | refine am_and ?_ | exact fun q => hK _ _ _ _ _ (fun v h' q => hX _ _ _ _ _ _ q) q | split)
theorem am_get_m (ci k : Nat) : am_TM (am_get ci k) := by
  intro K hK Q Q' hQ X X' hX pc ls st h c z
  unfold am_get
  repeat' split
  all_goals repeat' (first | exact fun q => hX _ _ _ _ _ _ q | exact fun q => hQ _ _ q | exact fun q => q | refine am_bra ?_ ?_ | refine am_and ?_ | exact fun q => hK _ _ _ _ _ (fun v h' q => hX _ _ _ _ _ _ q) q | split)
theorem am_put_m (ci k : Nat) (ty : FieldType) : am_TM (am_put ci k ty) := by
  intro K hK Q Q' hQ X X' hX pc ls st h c z
  unfold am_put
  repeat' split
  all_goals repeat' (first | exact fun q => hX _ _ _ _ _ _ q | exact fun q => hQ _ _ q | exact fun q => q | refine am_bra ?_ ?_ | refine am_and ?_ | exact fun q => hK _ _ _ _ _ (fun v h' q => hX _ _ _ _ _ _ q) q | split)
theorem am_iald_m : am_TM (am_iald) := by
  intro K hK Q Q' hQ X X' hX pc ls st h c z
  unfold am_iald
  repeat' split
  all_goals repeat' (first | exact fun q => hX _ _ _ _ _ _ q | exact fun q => hQ _ _ q | exact fun q => q | refine am_bra ?_ ?_ | refine am_and ?_ | exact fun q => hK _ _ _ _ _ (fun v h' q => hX _ _ _ _ _ _ q) q | split)
theorem am_cald_m : am_TM (am_cald) := by
  intro K hK Q Q' hQ X X' hX pc ls st h c z
  unfold am_cald
  repeat' split
  all_goals repeat' (first | exact fun q => hX _ _ _ _ _ _ q | exact fun q => hQ _ _ q | exact fun q => q | refine am_bra ?_ ?_ | refine am_and ?_ | exact fun q => hK _ _ _ _ _ (fun v h' q => hX _ _ _ _ _ _ q) q | split)
theorem am_lald_m : am_TM (am_lald) := by
  intro K hK Q Q' hQ X X' hX pc ls st h c z
  unfold am_lald
  repeat' split
  all_goals repeat' (first | exact fun q => hX _ _ _ _ _ _ q | exact fun q => hQ _ _ q | exact fun q => q | refine am_bra ?_ ?_ | refine am_and ?_ | exact fun q => hK _ _ _ _ _ (fun v h' q => hX _ _ _ _ _ _ q) q | split)
theorem am_iast_m : am_TM (am_iast) := by
  intro K hK Q Q' hQ X X' hX pc ls st h c z
  unfold am_iast
  repeat' split
  all_goals repeat' (first | exact fun q => hX _ _ _ _ _ _ q | exact fun q => hQ _ _ q | exact fun q => q | refine am_bra ?_ ?_ | refine am_and ?_ | exact fun q => hK _ _ _ _ _ (fun v h' q => hX _ _ _ _ _ _ q) q | split)
theorem am_cast_m : am_TM (am_cast) := by
  intro K hK Q Q' hQ X X' hX pc ls st h c z
  unfold am_cast
  repeat' split
  all_goals repeat' (first | exact fun q => hX _ _ _ _ _ _ q | exact fun q => hQ _ _ q | exact fun q => q | refine am_bra ?_ ?_ | refine am_and ?_ | exact fun q => hK _ _ _ _ _ (fun v h' q => hX _ _ _ _ _ _ q) q | split)
theorem am_last_m : am_TM (am_last) := by
  intro K hK Q Q' hQ X X' hX pc ls st h c z
  unfold am_last
  repeat' split
  all_goals repeat' (first | exact fun q => hX _ _ _ _ _ _ q | exact fun q => hQ _ _ q | exact fun q => q | refine am_bra ?_ ?_ | refine am_and ?_ | exact fun q => hK _ _ _ _ _ (fun v h' q => hX _ _ _ _ _ _ q) q | split)
theorem am_rald_m (ty0 : FieldType) : am_TM (am_rald ty0) := by
  intro K hK Q Q' hQ X X' hX pc ls st h c z
  unfold am_rald
  repeat' split
  all_goals repeat' (first | exact fun q => hX _ _ _ _ _ _ q | exact fun q => hQ _ _ q | exact fun q => q | refine am_bra ?_ ?_ | refine am_and ?_ | exact fun q => hK _ _ _ _ _ (fun v h' q => hX _ _ _ _ _ _ q) q | split)
theorem am_rast_m (ci : Nat) (E : String) : am_TM (am_rast ci E) := by
  intro K hK Q Q' hQ X X' hX pc ls st h c z
  unfold am_rast
  repeat' split
  all_goals repeat' (first | exact fun q => hX _ _ _ _ _ _ q | exact fun q => hQ _ _ q | exact fun q => q | refine am_bra ?_ ?_ | refine am_and ?_ | exact fun q => hK _ _ _ _ _ (fun v h' q => hX _ _ _ _ _ _ q) q | split)
theorem am_len_m : am_TM (am_len) := by
  intro K hK Q Q' hQ X X' hX pc ls st h c z
  unfold am_len
  repeat' split
  all_goals repeat' (first | exact fun q => hX _ _ _ _ _ _ q | exact fun q => hQ _ _ q | exact fun q => q | refine am_bra ?_ ?_ | refine am_and ?_ | exact fun q => hK _ _ _ _ _ (fun v h' q => hX _ _ _ _ _ _ q) q | split)
theorem am_new_m (ci N : Nat) (fs : List Value) (mc ms : Nat) : am_TM (am_new ci N fs mc ms) := by
  intro K hK Q Q' hQ X X' hX pc ls st h c z
  unfold am_new
  repeat' split
  all_goals repeat' (first | exact fun q => hX _ _ _ _ _ _ q | exact fun q => hQ _ _ q | exact fun q => q | refine am_bra ?_ ?_ | refine am_and ?_ | exact fun q => hK _ _ _ _ _ (fun v h' q => hX _ _ _ _ _ _ q) q | split)
theorem am_newi_m (ty : FieldType) (mc ms : Nat) : am_TM (am_newi ty mc ms) := by
  intro K hK Q Q' hQ X X' hX pc ls st h c z
  unfold am_newi
  repeat' split
  all_goals repeat' (first | exact fun q => hX _ _ _ _ _ _ q | exact fun q => hQ _ _ q | exact fun q => q | refine am_bra ?_ ?_ | refine am_and ?_ | exact fun q => hK _ _ _ _ _ (fun v h' q => hX _ _ _ _ _ _ q) q | split)
theorem am_newl_m (mc ms : Nat) : am_TM (am_newl mc ms) := by
  intro K hK Q Q' hQ X X' hX pc ls st h c z
  unfold am_newl
  repeat' split
  all_goals repeat' (first | exact fun q => hX _ _ _ _ _ _ q | exact fun q => hQ _ _ q | exact fun q => q | refine am_bra ?_ ?_ | refine am_and ?_ | exact fun q => hK _ _ _ _ _ (fun v h' q => hX _ _ _ _ _ _ q) q | split)
theorem am_newr_m (E : String) (mc ms : Nat) : am_TM (am_newr E mc ms) := by
  intro K hK Q Q' hQ X X' hX pc ls st h c z
  unfold am_newr
  repeat' split
  all_goals repeat' (first | exact fun q => hX _ _ _ _ _ _ q | exact fun q => hQ _ _ q | exact fun q => q | refine am_bra ?_ ?_ | refine am_and ?_ | exact fun q => hK _ _ _ _ _ (fun v h' q => hX _ _ _ _ _ _ q) q | split)
theorem am_newm_m (mc ms : Nat) : am_TM (am_newm mc ms) := by
  intro K hK Q Q' hQ X X' hX pc ls st h c z
  unfold am_newm
  repeat' split
  all_goals repeat' (first | exact fun q => hX _ _ _ _ _ _ q | exact fun q => hQ _ _ q | exact fun q => q | refine am_bra ?_ ?_ | refine am_and ?_ | exact fun q => hK _ _ _ _ _ (fun v h' q => hX _ _ _ _ _ _ q) q | split)
theorem am_inv_m (y n ci ymc yms mc ms : Nat) : am_TM (am_inv y n ci ymc yms mc ms) := by
  intro K hK Q Q' hQ X X' hX pc ls st h c z
  unfold am_inv
  repeat' split
  all_goals repeat' (first | exact fun q => hX _ _ _ _ _ _ q | exact fun q => hQ _ _ q | exact fun q => q | refine am_bra ?_ ?_ | refine am_and ?_ | exact fun q => hK _ _ _ _ _ (fun v h' q => hX _ _ _ _ _ _ q) q | split)
theorem am_inm_m (y n ymc yms mc ms : Nat) : am_TM (am_inm y n ymc yms mc ms) := by
  intro K hK Q Q' hQ X X' hX pc ls st h c z
  unfold am_inm
  repeat' split
  all_goals repeat' (first | exact fun q => hX _ _ _ _ _ _ q | exact fun q => hQ _ _ q | exact fun q => q | refine am_bra ?_ ?_ | refine am_and ?_ | exact fun q => hK _ _ _ _ _ (fun v h' q => hX _ _ _ _ _ _ q) q | split)
theorem am_ins_m (y n ymc yms mc ms : Nat) : am_TM (am_ins y n ymc yms mc ms) := by
  intro K hK Q Q' hQ X X' hX pc ls st h c z
  unfold am_ins
  repeat' split
  all_goals repeat' (first | exact fun q => hX _ _ _ _ _ _ q | exact fun q => hQ _ _ q | exact fun q => q | refine am_bra ?_ ?_ | refine am_and ?_ | exact fun q => hK _ _ _ _ _ (fun v h' q => hX _ _ _ _ _ _ q) q | split)
theorem am_obj_m : am_TM (am_obj) := by
  intro K hK Q Q' hQ X X' hX pc ls st h c z
  unfold am_obj
  repeat' split
  all_goals repeat' (first | exact fun q => hX _ _ _ _ _ _ q | exact fun q => hQ _ _ q | exact fun q => q | refine am_bra ?_ ?_ | refine am_and ?_ | exact fun q => hK _ _ _ _ _ (fun v h' q => hX _ _ _ _ _ _ q) q | split)
theorem am_max_m : am_TM (am_max) := by
  intro K hK Q Q' hQ X X' hX pc ls st h c z
  unfold am_max
  repeat' split
  all_goals repeat' (first | exact fun q => hX _ _ _ _ _ _ q | exact fun q => hQ _ _ q | exact fun q => q | refine am_bra ?_ ?_ | refine am_and ?_ | exact fun q => hK _ _ _ _ _ (fun v h' q => hX _ _ _ _ _ _ q) q | split)
theorem am_min_m : am_TM (am_min) := by
  intro K hK Q Q' hQ X X' hX pc ls st h c z
  unfold am_min
  repeat' split
  all_goals repeat' (first | exact fun q => hX _ _ _ _ _ _ q | exact fun q => hQ _ _ q | exact fun q => q | refine am_bra ?_ ?_ | refine am_and ?_ | exact fun q => hK _ _ _ _ _ (fun v h' q => hX _ _ _ _ _ _ q) q | split)
theorem am_copy_m : am_TM (am_copy) := by
  intro K hK Q Q' hQ X X' hX pc ls st h c z
  unfold am_copy
  repeat' split
  all_goals repeat' (first | exact fun q => hX _ _ _ _ _ _ q | exact fun q => hQ _ _ q | exact fun q => q | refine am_bra ?_ ?_ | refine am_and ?_ | exact fun q => hK _ _ _ _ _ (fun v h' q => hX _ _ _ _ _ _ q) q | split)
theorem am_no_m : am_TM (am_no) := by
  intro K hK Q Q' hQ X X' hX pc ls st h c z
  unfold am_no
  repeat' split
  all_goals repeat' (first | exact fun q => hX _ _ _ _ _ _ q | exact fun q => hQ _ _ q | exact fun q => q | refine am_bra ?_ ?_ | refine am_and ?_ | exact fun q => hK _ _ _ _ _ (fun v h' q => hX _ _ _ _ _ _ q) q | split)
theorem am_ldcs_m (i : UInt32) : am_TM (am_ldcs i) := by
  intro K hK Q Q' hQ X X' hX pc ls st h c z
  unfold am_ldcs
  repeat' split
  all_goals repeat' (first | exact fun q => hX _ _ _ _ _ _ q | exact fun q => hQ _ _ q | exact fun q => q | refine am_bra ?_ ?_ | refine am_and ?_ | exact fun q => hK _ _ _ _ _ (fun v h' q => hX _ _ _ _ _ _ q) q | split)
theorem am_ixof_m : am_TM (am_ixof) := by
  intro K hK Q Q' hQ X X' hX pc ls st h c z
  unfold am_ixof
  repeat' split
  all_goals repeat' (first | exact fun q => hX _ _ _ _ _ _ q | exact fun q => hQ _ _ q | exact fun q => q | refine am_bra ?_ ?_ | refine am_and ?_ | exact fun q => hK _ _ _ _ _ (fun v h' q => hX _ _ _ _ _ _ q) q | split)
theorem am_slen_m (L : Nat) : am_TM (am_slen L) := by
  intro K hK Q Q' hQ X X' hX pc ls st h c z
  unfold am_slen
  repeat' split
  all_goals repeat' (first | exact fun q => hX _ _ _ _ _ _ q | exact fun q => hQ _ _ q | exact fun q => q | refine am_bra ?_ ?_ | refine am_and ?_ | exact fun q => hK _ _ _ _ _ (fun v h' q => hX _ _ _ _ _ _ q) q | split)
theorem am_sld_m (L : Nat) (xs : Nat → Int32) : am_TM (am_sld L xs) := by
  intro K hK Q Q' hQ X X' hX pc ls st h c z
  unfold am_sld
  repeat' split
  all_goals repeat' (first | exact fun q => hX _ _ _ _ _ _ q | exact fun q => hQ _ _ q | exact fun q => q | refine am_bra ?_ ?_ | refine am_and ?_ | exact fun q => hK _ _ _ _ _ (fun v h' q => hX _ _ _ _ _ _ q) q | split)
theorem am_tsw_m (d lo hi : Nat) (tg : List Nat) : am_TM (am_tsw d lo hi tg) := by
  intro K hK Q Q' hQ X X' hX pc ls st h c z
  unfold am_tsw
  split
  · exact fun q => ⟨fun a => hX _ _ _ _ _ _ (q.1 a), fun k a b => hX _ _ _ _ _ _ (q.2 k a b)⟩
  · exact fun q => q
theorem am_fetch_m {l : List (Nat × am_T)} (h : ∀ q ∈ l, am_TM q.2) (pc : Nat) : am_TM (am_fetch l pc) := by
  induction l with
  | nil => exact am_no_m
  | cons q r ih =>
    unfold am_fetch
    split
    · exact h q List.mem_cons_self
    · exact ih (fun x hx => h x (List.mem_cons_of_mem _ hx))
