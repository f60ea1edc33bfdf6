def am_cdl (lx : am_Lx) : List (List (Nat × am_T)) := [cd_0, cd_1, cd_2, cd_3, cd_4, cd_5, cd_6, cd_7, cd_8, cd_9, cd_10, cd_11, cd_12, cd_13, cd_14, cd_15, cd_16, cd_17, cd_18, cd_19, cd_20, cd_21, cd_22, cd_23, cd_24, cd_25, cd_26, cd_27, cd_28, cd_29, cd_30, cd_31, cd_32, cd_33, cd_34, cd_35, cd_36, cd_37, cd_38, cd_39, cd_40, cd_41, cd_42, cd_43, cd_44, cd_45, cd_46, cd_47, cd_48, cd_49, cd_50, cd_51, cd_52, cd_53, cd_54, cd_55, cd_56, cd_57, cd_58, cd_59, cd_60, cd_61, cd_62, cd_63, cd_64, cd_65, cd_66, cd_67, cd_68, cd_69, cd_70, cd_71, cd_72, cd_73, cd_74, cd_75, cd_76, cd_77, cd_78, cd_79, cd_80, cd_81, cd_82, cd_83, cd_84, cd_85, cd_86, cd_87, cd_88, cd_89, cd_90, cd_91, cd_92, cd_93, cd_94, cd_95, cd_96, cd_97, cd_98, cd_99, cd_100, cd_101, cd_102, cd_103, cd_104, cd_105, cd_106, cd_107, cd_108, cd_109, cd_110, cd_111, cd_112, cd_113, cd_114, cd_115, cd_116, cd_117, cd_118, cd_119, cd_120, cd_121, cd_122, cd_123, cd_124, cd_125, cd_126, cd_127, cd_128, cd_129, cd_130, cd_131 lx]
def am_cd (lx : am_Lx) (y : Nat) : Nat → am_T := am_fetch ((am_cdl lx).getD y [])
theorem am_cm_all (lx : am_Lx) : ∀ l ∈ am_cdl lx, ∀ q ∈ l, am_TM q.2 := List.forall_mem_cons.mpr ⟨cm_0, List.forall_mem_cons.mpr ⟨cm_1, List.forall_mem_cons.mpr ⟨cm_2, List.forall_mem_cons.mpr ⟨cm_3, List.forall_mem_cons.mpr ⟨cm_4, List.forall_mem_cons.mpr ⟨cm_5, List.forall_mem_cons.mpr ⟨cm_6, List.forall_mem_cons.mpr ⟨cm_7, List.forall_mem_cons.mpr ⟨cm_8, List.forall_mem_cons.mpr ⟨cm_9, List.forall_mem_cons.mpr ⟨cm_10, List.forall_mem_cons.mpr ⟨cm_11, List.forall_mem_cons.mpr ⟨cm_12, List.forall_mem_cons.mpr ⟨cm_13, List.forall_mem_cons.mpr ⟨cm_14, List.forall_mem_cons.mpr ⟨cm_15, List.forall_mem_cons.mpr ⟨cm_16, List.forall_mem_cons.mpr ⟨cm_17, List.forall_mem_cons.mpr ⟨cm_18, List.forall_mem_cons.mpr ⟨cm_19, List.forall_mem_cons.mpr ⟨cm_20, List.forall_mem_cons.mpr ⟨cm_21, List.forall_mem_cons.mpr ⟨cm_22, List.forall_mem_cons.mpr ⟨cm_23, List.forall_mem_cons.mpr ⟨cm_24, List.forall_mem_cons.mpr ⟨cm_25, List.forall_mem_cons.mpr ⟨cm_26, List.forall_mem_cons.mpr ⟨cm_27, List.forall_mem_cons.mpr ⟨cm_28, List.forall_mem_cons.mpr ⟨cm_29, List.forall_mem_cons.mpr ⟨cm_30, List.forall_mem_cons.mpr ⟨cm_31, List.forall_mem_cons.mpr ⟨cm_32, List.forall_mem_cons.mpr ⟨cm_33, List.forall_mem_cons.mpr ⟨cm_34, List.forall_mem_cons.mpr ⟨cm_35, List.forall_mem_cons.mpr ⟨cm_36, List.forall_mem_cons.mpr ⟨cm_37, List.forall_mem_cons.mpr ⟨cm_38, List.forall_mem_cons.mpr ⟨cm_39, List.forall_mem_cons.mpr ⟨cm_40, List.forall_mem_cons.mpr ⟨cm_41, List.forall_mem_cons.mpr ⟨cm_42, List.forall_mem_cons.mpr ⟨cm_43, List.forall_mem_cons.mpr ⟨cm_44, List.forall_mem_cons.mpr ⟨cm_45, List.forall_mem_cons.mpr ⟨cm_46, List.forall_mem_cons.mpr ⟨cm_47, List.forall_mem_cons.mpr ⟨cm_48, List.forall_mem_cons.mpr ⟨cm_49, List.forall_mem_cons.mpr ⟨cm_50, List.forall_mem_cons.mpr ⟨cm_51, List.forall_mem_cons.mpr ⟨cm_52, List.forall_mem_cons.mpr ⟨cm_53, List.forall_mem_cons.mpr ⟨cm_54, List.forall_mem_cons.mpr ⟨cm_55, List.forall_mem_cons.mpr ⟨cm_56, List.forall_mem_cons.mpr ⟨cm_57, List.forall_mem_cons.mpr ⟨cm_58, List.forall_mem_cons.mpr ⟨cm_59, List.forall_mem_cons.mpr ⟨cm_60, List.forall_mem_cons.mpr ⟨cm_61, List.forall_mem_cons.mpr ⟨cm_62, List.forall_mem_cons.mpr ⟨cm_63, List.forall_mem_cons.mpr ⟨cm_64, List.forall_mem_cons.mpr ⟨cm_65, List.forall_mem_cons.mpr ⟨cm_66, List.forall_mem_cons.mpr ⟨cm_67, List.forall_mem_cons.mpr ⟨cm_68, List.forall_mem_cons.mpr ⟨cm_69, List.forall_mem_cons.mpr ⟨cm_70, List.forall_mem_cons.mpr ⟨cm_71, List.forall_mem_cons.mpr ⟨cm_72, List.forall_mem_cons.mpr ⟨cm_73, List.forall_mem_cons.mpr ⟨cm_74, List.forall_mem_cons.mpr ⟨cm_75, List.forall_mem_cons.mpr ⟨cm_76, List.forall_mem_cons.mpr ⟨cm_77, List.forall_mem_cons.mpr ⟨cm_78, List.forall_mem_cons.mpr ⟨cm_79, List.forall_mem_cons.mpr ⟨cm_80, List.forall_mem_cons.mpr ⟨cm_81, List.forall_mem_cons.mpr ⟨cm_82, List.forall_mem_cons.mpr ⟨cm_83, List.forall_mem_cons.mpr ⟨cm_84, List.forall_mem_cons.mpr ⟨cm_85, List.forall_mem_cons.mpr ⟨cm_86, List.forall_mem_cons.mpr ⟨cm_87, List.forall_mem_cons.mpr ⟨cm_88, List.forall_mem_cons.mpr ⟨cm_89, List.forall_mem_cons.mpr ⟨cm_90, List.forall_mem_cons.mpr ⟨cm_91, List.forall_mem_cons.mpr ⟨cm_92, List.forall_mem_cons.mpr ⟨cm_93, List.forall_mem_cons.mpr ⟨cm_94, List.forall_mem_cons.mpr ⟨cm_95, List.forall_mem_cons.mpr ⟨cm_96, List.forall_mem_cons.mpr ⟨cm_97, List.forall_mem_cons.mpr ⟨cm_98, List.forall_mem_cons.mpr ⟨cm_99, List.forall_mem_cons.mpr ⟨cm_100, List.forall_mem_cons.mpr ⟨cm_101, List.forall_mem_cons.mpr ⟨cm_102, List.forall_mem_cons.mpr ⟨cm_103, List.forall_mem_cons.mpr ⟨cm_104, List.forall_mem_cons.mpr ⟨cm_105, List.forall_mem_cons.mpr ⟨cm_106, List.forall_mem_cons.mpr ⟨cm_107, List.forall_mem_cons.mpr ⟨cm_108, List.forall_mem_cons.mpr ⟨cm_109, List.forall_mem_cons.mpr ⟨cm_110, List.forall_mem_cons.mpr ⟨cm_111, List.forall_mem_cons.mpr ⟨cm_112, List.forall_mem_cons.mpr ⟨cm_113, List.forall_mem_cons.mpr ⟨cm_114, List.forall_mem_cons.mpr ⟨cm_115, List.forall_mem_cons.mpr ⟨cm_116, List.forall_mem_cons.mpr ⟨cm_117, List.forall_mem_cons.mpr ⟨cm_118, List.forall_mem_cons.mpr ⟨cm_119, List.forall_mem_cons.mpr ⟨cm_120, List.forall_mem_cons.mpr ⟨cm_121, List.forall_mem_cons.mpr ⟨cm_122, List.forall_mem_cons.mpr ⟨cm_123, List.forall_mem_cons.mpr ⟨cm_124, List.forall_mem_cons.mpr ⟨cm_125, List.forall_mem_cons.mpr ⟨cm_126, List.forall_mem_cons.mpr ⟨cm_127, List.forall_mem_cons.mpr ⟨cm_128, List.forall_mem_cons.mpr ⟨cm_129, List.forall_mem_cons.mpr ⟨cm_130, List.forall_mem_cons.mpr ⟨cm_131 lx, fun _ h => absurd h List.not_mem_nil⟩⟩⟩⟩⟩⟩⟩⟩⟩⟩⟩⟩⟩⟩⟩⟩⟩⟩⟩⟩⟩⟩⟩⟩⟩⟩⟩⟩⟩⟩⟩⟩⟩⟩⟩⟩⟩⟩⟩⟩⟩⟩⟩⟩⟩⟩⟩⟩⟩⟩⟩⟩⟩⟩⟩⟩⟩⟩⟩⟩⟩⟩⟩⟩⟩⟩⟩⟩⟩⟩⟩⟩⟩⟩⟩⟩⟩⟩⟩⟩⟩⟩⟩⟩⟩⟩⟩⟩⟩⟩⟩⟩⟩⟩⟩⟩⟩⟩⟩⟩⟩⟩⟩⟩⟩⟩⟩⟩⟩⟩⟩⟩⟩⟩⟩⟩⟩⟩⟩⟩⟩⟩⟩⟩⟩⟩⟩⟩⟩⟩⟩⟩
theorem am_cdm (lx : am_Lx) (y pc : Nat) : am_TM (am_cd lx y pc) := by
  refine am_fetch_m (fun q hq => ?_) pc
  rw [List.getD_eq_getElem?_getD] at hq
  cases h : (am_cdl lx)[y]? with
  | none => rw [h] at hq; exact absurd hq List.not_mem_nil
  | some l => rw [h] at hq; exact am_cm_all lx l (List.mem_of_getElem? h) q hq
theorem ok_0 (lx : am_Lx) : am_Ok lx am_mt (am_cd lx) 0 := ⟨by decide +kernel, by decide +kernel, fun pc => am_sd_fetch cs_0 pc⟩
theorem okA_0 (lx : am_Lx) : ∀ y, y < 1 → am_Ok lx am_mt (am_cd lx) y := lt_s lt_0 (ok_0 lx)
theorem ok_1 (lx : am_Lx) : am_Ok lx am_mt (am_cd lx) 1 := ⟨by decide +kernel, by decide +kernel, fun pc => am_sd_fetch cs_1 pc⟩
theorem okA_1 (lx : am_Lx) : ∀ y, y < 2 → am_Ok lx am_mt (am_cd lx) y := lt_s (okA_0 lx) (ok_1 lx)
theorem ok_2 (lx : am_Lx) : am_Ok lx am_mt (am_cd lx) 2 := ⟨by decide +kernel, by decide +kernel, fun pc => am_sd_fetch cs_2 pc⟩
theorem okA_2 (lx : am_Lx) : ∀ y, y < 3 → am_Ok lx am_mt (am_cd lx) y := lt_s (okA_1 lx) (ok_2 lx)
theorem ok_3 (lx : am_Lx) : am_Ok lx am_mt (am_cd lx) 3 := ⟨by decide +kernel, by decide +kernel, fun pc => am_sd_fetch cs_3 pc⟩
theorem okA_3 (lx : am_Lx) : ∀ y, y < 4 → am_Ok lx am_mt (am_cd lx) y := lt_s (okA_2 lx) (ok_3 lx)
theorem ok_4 (lx : am_Lx) : am_Ok lx am_mt (am_cd lx) 4 := ⟨by decide +kernel, by decide +kernel, fun pc => am_sd_fetch cs_4 pc⟩
theorem okA_4 (lx : am_Lx) : ∀ y, y < 5 → am_Ok lx am_mt (am_cd lx) y := lt_s (okA_3 lx) (ok_4 lx)
theorem ok_5 (lx : am_Lx) : am_Ok lx am_mt (am_cd lx) 5 := ⟨by decide +kernel, by decide +kernel, fun pc => am_sd_fetch cs_5 pc⟩
theorem okA_5 (lx : am_Lx) : ∀ y, y < 6 → am_Ok lx am_mt (am_cd lx) y := lt_s (okA_4 lx) (ok_5 lx)
theorem ok_6 (lx : am_Lx) : am_Ok lx am_mt (am_cd lx) 6 := ⟨by decide +kernel, by decide +kernel, fun pc => am_sd_fetch cs_6 pc⟩
theorem okA_6 (lx : am_Lx) : ∀ y, y < 7 → am_Ok lx am_mt (am_cd lx) y := lt_s (okA_5 lx) (ok_6 lx)
theorem ok_7 (lx : am_Lx) : am_Ok lx am_mt (am_cd lx) 7 := ⟨by decide +kernel, by decide +kernel, fun pc => am_sd_fetch cs_7 pc⟩
theorem okA_7 (lx : am_Lx) : ∀ y, y < 8 → am_Ok lx am_mt (am_cd lx) y := lt_s (okA_6 lx) (ok_7 lx)
theorem ok_8 (lx : am_Lx) : am_Ok lx am_mt (am_cd lx) 8 := ⟨by decide +kernel, by decide +kernel, fun pc => am_sd_fetch cs_8 pc⟩
theorem okA_8 (lx : am_Lx) : ∀ y, y < 9 → am_Ok lx am_mt (am_cd lx) y := lt_s (okA_7 lx) (ok_8 lx)
theorem ok_9 (lx : am_Lx) : am_Ok lx am_mt (am_cd lx) 9 := ⟨by decide +kernel, by decide +kernel, fun pc => am_sd_fetch cs_9 pc⟩
theorem okA_9 (lx : am_Lx) : ∀ y, y < 10 → am_Ok lx am_mt (am_cd lx) y := lt_s (okA_8 lx) (ok_9 lx)
theorem ok_10 (lx : am_Lx) : am_Ok lx am_mt (am_cd lx) 10 := ⟨by decide +kernel, by decide +kernel, fun pc => am_sd_fetch cs_10 pc⟩
theorem okA_10 (lx : am_Lx) : ∀ y, y < 11 → am_Ok lx am_mt (am_cd lx) y := lt_s (okA_9 lx) (ok_10 lx)
theorem ok_11 (lx : am_Lx) : am_Ok lx am_mt (am_cd lx) 11 := ⟨by decide +kernel, by decide +kernel, fun pc => am_sd_fetch cs_11 pc⟩
theorem okA_11 (lx : am_Lx) : ∀ y, y < 12 → am_Ok lx am_mt (am_cd lx) y := lt_s (okA_10 lx) (ok_11 lx)
theorem ok_12 (lx : am_Lx) : am_Ok lx am_mt (am_cd lx) 12 := ⟨by decide +kernel, by decide +kernel, fun pc => am_sd_fetch cs_12 pc⟩
theorem okA_12 (lx : am_Lx) : ∀ y, y < 13 → am_Ok lx am_mt (am_cd lx) y := lt_s (okA_11 lx) (ok_12 lx)
theorem ok_13 (lx : am_Lx) : am_Ok lx am_mt (am_cd lx) 13 := ⟨by decide +kernel, by decide +kernel, fun pc => am_sd_fetch cs_13 pc⟩
theorem okA_13 (lx : am_Lx) : ∀ y, y < 14 → am_Ok lx am_mt (am_cd lx) y := lt_s (okA_12 lx) (ok_13 lx)
theorem ok_14 (lx : am_Lx) : am_Ok lx am_mt (am_cd lx) 14 := ⟨by decide +kernel, by decide +kernel, fun pc => am_sd_fetch cs_14 pc⟩
theorem okA_14 (lx : am_Lx) : ∀ y, y < 15 → am_Ok lx am_mt (am_cd lx) y := lt_s (okA_13 lx) (ok_14 lx)
theorem ok_15 (lx : am_Lx) : am_Ok lx am_mt (am_cd lx) 15 := ⟨by decide +kernel, by decide +kernel, fun pc => am_sd_fetch cs_15 pc⟩
theorem okA_15 (lx : am_Lx) : ∀ y, y < 16 → am_Ok lx am_mt (am_cd lx) y := lt_s (okA_14 lx) (ok_15 lx)
theorem ok_16 (lx : am_Lx) : am_Ok lx am_mt (am_cd lx) 16 := ⟨by decide +kernel, by decide +kernel, fun pc => am_sd_fetch cs_16 pc⟩
theorem okA_16 (lx : am_Lx) : ∀ y, y < 17 → am_Ok lx am_mt (am_cd lx) y := lt_s (okA_15 lx) (ok_16 lx)
theorem ok_17 (lx : am_Lx) : am_Ok lx am_mt (am_cd lx) 17 := ⟨by decide +kernel, by decide +kernel, fun pc => am_sd_fetch cs_17 pc⟩
theorem okA_17 (lx : am_Lx) : ∀ y, y < 18 → am_Ok lx am_mt (am_cd lx) y := lt_s (okA_16 lx) (ok_17 lx)
theorem ok_18 (lx : am_Lx) : am_Ok lx am_mt (am_cd lx) 18 := ⟨by decide +kernel, by decide +kernel, fun pc => am_sd_fetch cs_18 pc⟩
theorem okA_18 (lx : am_Lx) : ∀ y, y < 19 → am_Ok lx am_mt (am_cd lx) y := lt_s (okA_17 lx) (ok_18 lx)
theorem ok_19 (lx : am_Lx) : am_Ok lx am_mt (am_cd lx) 19 := ⟨by decide +kernel, by decide +kernel, fun pc => am_sd_fetch cs_19 pc⟩
theorem okA_19 (lx : am_Lx) : ∀ y, y < 20 → am_Ok lx am_mt (am_cd lx) y := lt_s (okA_18 lx) (ok_19 lx)
theorem ok_20 (lx : am_Lx) : am_Ok lx am_mt (am_cd lx) 20 := ⟨by decide +kernel, by decide +kernel, fun pc => am_sd_fetch cs_20 pc⟩
theorem okA_20 (lx : am_Lx) : ∀ y, y < 21 → am_Ok lx am_mt (am_cd lx) y := lt_s (okA_19 lx) (ok_20 lx)
theorem ok_21 (lx : am_Lx) : am_Ok lx am_mt (am_cd lx) 21 := ⟨by decide +kernel, by decide +kernel, fun pc => am_sd_fetch cs_21 pc⟩
theorem okA_21 (lx : am_Lx) : ∀ y, y < 22 → am_Ok lx am_mt (am_cd lx) y := lt_s (okA_20 lx) (ok_21 lx)
theorem ok_22 (lx : am_Lx) : am_Ok lx am_mt (am_cd lx) 22 := ⟨by decide +kernel, by decide +kernel, fun pc => am_sd_fetch cs_22 pc⟩
theorem okA_22 (lx : am_Lx) : ∀ y, y < 23 → am_Ok lx am_mt (am_cd lx) y := lt_s (okA_21 lx) (ok_22 lx)
theorem ok_23 (lx : am_Lx) : am_Ok lx am_mt (am_cd lx) 23 := ⟨by decide +kernel, by decide +kernel, fun pc => am_sd_fetch cs_23 pc⟩
theorem okA_23 (lx : am_Lx) : ∀ y, y < 24 → am_Ok lx am_mt (am_cd lx) y := lt_s (okA_22 lx) (ok_23 lx)
theorem ok_24 (lx : am_Lx) : am_Ok lx am_mt (am_cd lx) 24 := ⟨by decide +kernel, by decide +kernel, fun pc => am_sd_fetch cs_24 pc⟩
theorem okA_24 (lx : am_Lx) : ∀ y, y < 25 → am_Ok lx am_mt (am_cd lx) y := lt_s (okA_23 lx) (ok_24 lx)
theorem ok_25 (lx : am_Lx) : am_Ok lx am_mt (am_cd lx) 25 := ⟨by decide +kernel, by decide +kernel, fun pc => am_sd_fetch cs_25 pc⟩
theorem okA_25 (lx : am_Lx) : ∀ y, y < 26 → am_Ok lx am_mt (am_cd lx) y := lt_s (okA_24 lx) (ok_25 lx)
theorem ok_26 (lx : am_Lx) : am_Ok lx am_mt (am_cd lx) 26 := ⟨by decide +kernel, by decide +kernel, fun pc => am_sd_fetch cs_26 pc⟩
theorem okA_26 (lx : am_Lx) : ∀ y, y < 27 → am_Ok lx am_mt (am_cd lx) y := lt_s (okA_25 lx) (ok_26 lx)
theorem ok_27 (lx : am_Lx) : am_Ok lx am_mt (am_cd lx) 27 := ⟨by decide +kernel, by decide +kernel, fun pc => am_sd_fetch cs_27 pc⟩
theorem okA_27 (lx : am_Lx) : ∀ y, y < 28 → am_Ok lx am_mt (am_cd lx) y := lt_s (okA_26 lx) (ok_27 lx)
theorem ok_28 (lx : am_Lx) : am_Ok lx am_mt (am_cd lx) 28 := ⟨by decide +kernel, by decide +kernel, fun pc => am_sd_fetch cs_28 pc⟩
theorem okA_28 (lx : am_Lx) : ∀ y, y < 29 → am_Ok lx am_mt (am_cd lx) y := lt_s (okA_27 lx) (ok_28 lx)
theorem ok_29 (lx : am_Lx) : am_Ok lx am_mt (am_cd lx) 29 := ⟨by decide +kernel, by decide +kernel, fun pc => am_sd_fetch cs_29 pc⟩
theorem okA_29 (lx : am_Lx) : ∀ y, y < 30 → am_Ok lx am_mt (am_cd lx) y := lt_s (okA_28 lx) (ok_29 lx)
theorem ok_30 (lx : am_Lx) : am_Ok lx am_mt (am_cd lx) 30 := ⟨by decide +kernel, by decide +kernel, fun pc => am_sd_fetch cs_30 pc⟩
theorem okA_30 (lx : am_Lx) : ∀ y, y < 31 → am_Ok lx am_mt (am_cd lx) y := lt_s (okA_29 lx) (ok_30 lx)
theorem ok_31 (lx : am_Lx) : am_Ok lx am_mt (am_cd lx) 31 := ⟨by decide +kernel, by decide +kernel, fun pc => am_sd_fetch cs_31 pc⟩
theorem okA_31 (lx : am_Lx) : ∀ y, y < 32 → am_Ok lx am_mt (am_cd lx) y := lt_s (okA_30 lx) (ok_31 lx)
theorem ok_32 (lx : am_Lx) : am_Ok lx am_mt (am_cd lx) 32 := ⟨by decide +kernel, by decide +kernel, fun pc => am_sd_fetch cs_32 pc⟩
theorem okA_32 (lx : am_Lx) : ∀ y, y < 33 → am_Ok lx am_mt (am_cd lx) y := lt_s (okA_31 lx) (ok_32 lx)
theorem ok_33 (lx : am_Lx) : am_Ok lx am_mt (am_cd lx) 33 := ⟨by decide +kernel, by decide +kernel, fun pc => am_sd_fetch cs_33 pc⟩
theorem okA_33 (lx : am_Lx) : ∀ y, y < 34 → am_Ok lx am_mt (am_cd lx) y := lt_s (okA_32 lx) (ok_33 lx)
theorem ok_34 (lx : am_Lx) : am_Ok lx am_mt (am_cd lx) 34 := ⟨by decide +kernel, by decide +kernel, fun pc => am_sd_fetch cs_34 pc⟩
theorem okA_34 (lx : am_Lx) : ∀ y, y < 35 → am_Ok lx am_mt (am_cd lx) y := lt_s (okA_33 lx) (ok_34 lx)
theorem ok_35 (lx : am_Lx) : am_Ok lx am_mt (am_cd lx) 35 := ⟨by decide +kernel, by decide +kernel, fun pc => am_sd_fetch cs_35 pc⟩
theorem okA_35 (lx : am_Lx) : ∀ y, y < 36 → am_Ok lx am_mt (am_cd lx) y := lt_s (okA_34 lx) (ok_35 lx)
theorem ok_36 (lx : am_Lx) : am_Ok lx am_mt (am_cd lx) 36 := ⟨by decide +kernel, by decide +kernel, fun pc => am_sd_fetch cs_36 pc⟩
theorem okA_36 (lx : am_Lx) : ∀ y, y < 37 → am_Ok lx am_mt (am_cd lx) y := lt_s (okA_35 lx) (ok_36 lx)
theorem ok_37 (lx : am_Lx) : am_Ok lx am_mt (am_cd lx) 37 := ⟨by decide +kernel, by decide +kernel, fun pc => am_sd_fetch cs_37 pc⟩
theorem okA_37 (lx : am_Lx) : ∀ y, y < 38 → am_Ok lx am_mt (am_cd lx) y := lt_s (okA_36 lx) (ok_37 lx)
theorem ok_38 (lx : am_Lx) : am_Ok lx am_mt (am_cd lx) 38 := ⟨by decide +kernel, by decide +kernel, fun pc => am_sd_fetch cs_38 pc⟩
theorem okA_38 (lx : am_Lx) : ∀ y, y < 39 → am_Ok lx am_mt (am_cd lx) y := lt_s (okA_37 lx) (ok_38 lx)
theorem ok_39 (lx : am_Lx) : am_Ok lx am_mt (am_cd lx) 39 := ⟨by decide +kernel, by decide +kernel, fun pc => am_sd_fetch cs_39 pc⟩
theorem okA_39 (lx : am_Lx) : ∀ y, y < 40 → am_Ok lx am_mt (am_cd lx) y := lt_s (okA_38 lx) (ok_39 lx)
theorem ok_40 (lx : am_Lx) : am_Ok lx am_mt (am_cd lx) 40 := ⟨by decide +kernel, by decide +kernel, fun pc => am_sd_fetch cs_40 pc⟩
theorem okA_40 (lx : am_Lx) : ∀ y, y < 41 → am_Ok lx am_mt (am_cd lx) y := lt_s (okA_39 lx) (ok_40 lx)
theorem ok_41 (lx : am_Lx) : am_Ok lx am_mt (am_cd lx) 41 := ⟨by decide +kernel, by decide +kernel, fun pc => am_sd_fetch cs_41 pc⟩
theorem okA_41 (lx : am_Lx) : ∀ y, y < 42 → am_Ok lx am_mt (am_cd lx) y := lt_s (okA_40 lx) (ok_41 lx)
theorem ok_42 (lx : am_Lx) : am_Ok lx am_mt (am_cd lx) 42 := ⟨by decide +kernel, by decide +kernel, fun pc => am_sd_fetch cs_42 pc⟩
theorem okA_42 (lx : am_Lx) : ∀ y, y < 43 → am_Ok lx am_mt (am_cd lx) y := lt_s (okA_41 lx) (ok_42 lx)
theorem ok_43 (lx : am_Lx) : am_Ok lx am_mt (am_cd lx) 43 := ⟨by decide +kernel, by decide +kernel, fun pc => am_sd_fetch cs_43 pc⟩
theorem okA_43 (lx : am_Lx) : ∀ y, y < 44 → am_Ok lx am_mt (am_cd lx) y := lt_s (okA_42 lx) (ok_43 lx)
theorem ok_44 (lx : am_Lx) : am_Ok lx am_mt (am_cd lx) 44 := ⟨by decide +kernel, by decide +kernel, fun pc => am_sd_fetch cs_44 pc⟩
theorem okA_44 (lx : am_Lx) : ∀ y, y < 45 → am_Ok lx am_mt (am_cd lx) y := lt_s (okA_43 lx) (ok_44 lx)
theorem ok_45 (lx : am_Lx) : am_Ok lx am_mt (am_cd lx) 45 := ⟨by decide +kernel, by decide +kernel, fun pc => am_sd_fetch cs_45 pc⟩
theorem okA_45 (lx : am_Lx) : ∀ y, y < 46 → am_Ok lx am_mt (am_cd lx) y := lt_s (okA_44 lx) (ok_45 lx)
theorem ok_46 (lx : am_Lx) : am_Ok lx am_mt (am_cd lx) 46 := ⟨by decide +kernel, by decide +kernel, fun pc => am_sd_fetch cs_46 pc⟩
theorem okA_46 (lx : am_Lx) : ∀ y, y < 47 → am_Ok lx am_mt (am_cd lx) y := lt_s (okA_45 lx) (ok_46 lx)
theorem ok_47 (lx : am_Lx) : am_Ok lx am_mt (am_cd lx) 47 := ⟨by decide +kernel, by decide +kernel, fun pc => am_sd_fetch cs_47 pc⟩
theorem okA_47 (lx : am_Lx) : ∀ y, y < 48 → am_Ok lx am_mt (am_cd lx) y := lt_s (okA_46 lx) (ok_47 lx)
theorem ok_48 (lx : am_Lx) : am_Ok lx am_mt (am_cd lx) 48 := ⟨by decide +kernel, by decide +kernel, fun pc => am_sd_fetch cs_48 pc⟩
theorem okA_48 (lx : am_Lx) : ∀ y, y < 49 → am_Ok lx am_mt (am_cd lx) y := lt_s (okA_47 lx) (ok_48 lx)
theorem ok_49 (lx : am_Lx) : am_Ok lx am_mt (am_cd lx) 49 := ⟨by decide +kernel, by decide +kernel, fun pc => am_sd_fetch cs_49 pc⟩
theorem okA_49 (lx : am_Lx) : ∀ y, y < 50 → am_Ok lx am_mt (am_cd lx) y := lt_s (okA_48 lx) (ok_49 lx)
theorem ok_50 (lx : am_Lx) : am_Ok lx am_mt (am_cd lx) 50 := ⟨by decide +kernel, by decide +kernel, fun pc => am_sd_fetch cs_50 pc⟩
theorem okA_50 (lx : am_Lx) : ∀ y, y < 51 → am_Ok lx am_mt (am_cd lx) y := lt_s (okA_49 lx) (ok_50 lx)
theorem ok_51 (lx : am_Lx) : am_Ok lx am_mt (am_cd lx) 51 := ⟨by decide +kernel, by decide +kernel, fun pc => am_sd_fetch cs_51 pc⟩
theorem okA_51 (lx : am_Lx) : ∀ y, y < 52 → am_Ok lx am_mt (am_cd lx) y := lt_s (okA_50 lx) (ok_51 lx)
theorem ok_52 (lx : am_Lx) : am_Ok lx am_mt (am_cd lx) 52 := ⟨by decide +kernel, by decide +kernel, fun pc => am_sd_fetch cs_52 pc⟩
theorem okA_52 (lx : am_Lx) : ∀ y, y < 53 → am_Ok lx am_mt (am_cd lx) y := lt_s (okA_51 lx) (ok_52 lx)
theorem ok_53 (lx : am_Lx) : am_Ok lx am_mt (am_cd lx) 53 := ⟨by decide +kernel, by decide +kernel, fun pc => am_sd_fetch cs_53 pc⟩
theorem okA_53 (lx : am_Lx) : ∀ y, y < 54 → am_Ok lx am_mt (am_cd lx) y := lt_s (okA_52 lx) (ok_53 lx)
theorem ok_54 (lx : am_Lx) : am_Ok lx am_mt (am_cd lx) 54 := ⟨by decide +kernel, by decide +kernel, fun pc => am_sd_fetch cs_54 pc⟩
theorem okA_54 (lx : am_Lx) : ∀ y, y < 55 → am_Ok lx am_mt (am_cd lx) y := lt_s (okA_53 lx) (ok_54 lx)
theorem ok_55 (lx : am_Lx) : am_Ok lx am_mt (am_cd lx) 55 := ⟨by decide +kernel, by decide +kernel, fun pc => am_sd_fetch cs_55 pc⟩
theorem okA_55 (lx : am_Lx) : ∀ y, y < 56 → am_Ok lx am_mt (am_cd lx) y := lt_s (okA_54 lx) (ok_55 lx)
theorem ok_56 (lx : am_Lx) : am_Ok lx am_mt (am_cd lx) 56 := ⟨by decide +kernel, by decide +kernel, fun pc => am_sd_fetch cs_56 pc⟩
theorem okA_56 (lx : am_Lx) : ∀ y, y < 57 → am_Ok lx am_mt (am_cd lx) y := lt_s (okA_55 lx) (ok_56 lx)
theorem ok_57 (lx : am_Lx) : am_Ok lx am_mt (am_cd lx) 57 := ⟨by decide +kernel, by decide +kernel, fun pc => am_sd_fetch cs_57 pc⟩
theorem okA_57 (lx : am_Lx) : ∀ y, y < 58 → am_Ok lx am_mt (am_cd lx) y := lt_s (okA_56 lx) (ok_57 lx)
theorem ok_58 (lx : am_Lx) : am_Ok lx am_mt (am_cd lx) 58 := ⟨by decide +kernel, by decide +kernel, fun pc => am_sd_fetch cs_58 pc⟩
theorem okA_58 (lx : am_Lx) : ∀ y, y < 59 → am_Ok lx am_mt (am_cd lx) y := lt_s (okA_57 lx) (ok_58 lx)
theorem ok_59 (lx : am_Lx) : am_Ok lx am_mt (am_cd lx) 59 := ⟨by decide +kernel, by decide +kernel, fun pc => am_sd_fetch cs_59 pc⟩
theorem okA_59 (lx : am_Lx) : ∀ y, y < 60 → am_Ok lx am_mt (am_cd lx) y := lt_s (okA_58 lx) (ok_59 lx)
theorem ok_60 (lx : am_Lx) : am_Ok lx am_mt (am_cd lx) 60 := ⟨by decide +kernel, by decide +kernel, fun pc => am_sd_fetch cs_60 pc⟩
theorem okA_60 (lx : am_Lx) : ∀ y, y < 61 → am_Ok lx am_mt (am_cd lx) y := lt_s (okA_59 lx) (ok_60 lx)
theorem ok_61 (lx : am_Lx) : am_Ok lx am_mt (am_cd lx) 61 := ⟨by decide +kernel, by decide +kernel, fun pc => am_sd_fetch cs_61 pc⟩
theorem okA_61 (lx : am_Lx) : ∀ y, y < 62 → am_Ok lx am_mt (am_cd lx) y := lt_s (okA_60 lx) (ok_61 lx)
theorem ok_62 (lx : am_Lx) : am_Ok lx am_mt (am_cd lx) 62 := ⟨by decide +kernel, by decide +kernel, fun pc => am_sd_fetch cs_62 pc⟩
theorem okA_62 (lx : am_Lx) : ∀ y, y < 63 → am_Ok lx am_mt (am_cd lx) y := lt_s (okA_61 lx) (ok_62 lx)
theorem ok_63 (lx : am_Lx) : am_Ok lx am_mt (am_cd lx) 63 := ⟨by decide +kernel, by decide +kernel, fun pc => am_sd_fetch cs_63 pc⟩
theorem okA_63 (lx : am_Lx) : ∀ y, y < 64 → am_Ok lx am_mt (am_cd lx) y := lt_s (okA_62 lx) (ok_63 lx)
theorem ok_64 (lx : am_Lx) : am_Ok lx am_mt (am_cd lx) 64 := ⟨by decide +kernel, by decide +kernel, fun pc => am_sd_fetch cs_64 pc⟩
theorem okA_64 (lx : am_Lx) : ∀ y, y < 65 → am_Ok lx am_mt (am_cd lx) y := lt_s (okA_63 lx) (ok_64 lx)
theorem ok_65 (lx : am_Lx) : am_Ok lx am_mt (am_cd lx) 65 := ⟨by decide +kernel, by decide +kernel, fun pc => am_sd_fetch cs_65 pc⟩
theorem okA_65 (lx : am_Lx) : ∀ y, y < 66 → am_Ok lx am_mt (am_cd lx) y := lt_s (okA_64 lx) (ok_65 lx)
theorem ok_66 (lx : am_Lx) : am_Ok lx am_mt (am_cd lx) 66 := ⟨by decide +kernel, by decide +kernel, fun pc => am_sd_fetch cs_66 pc⟩
theorem okA_66 (lx : am_Lx) : ∀ y, y < 67 → am_Ok lx am_mt (am_cd lx) y := lt_s (okA_65 lx) (ok_66 lx)
theorem ok_67 (lx : am_Lx) : am_Ok lx am_mt (am_cd lx) 67 := ⟨by decide +kernel, by decide +kernel, fun pc => am_sd_fetch cs_67 pc⟩
theorem okA_67 (lx : am_Lx) : ∀ y, y < 68 → am_Ok lx am_mt (am_cd lx) y := lt_s (okA_66 lx) (ok_67 lx)
theorem ok_68 (lx : am_Lx) : am_Ok lx am_mt (am_cd lx) 68 := ⟨by decide +kernel, by decide +kernel, fun pc => am_sd_fetch cs_68 pc⟩
theorem okA_68 (lx : am_Lx) : ∀ y, y < 69 → am_Ok lx am_mt (am_cd lx) y := lt_s (okA_67 lx) (ok_68 lx)
theorem ok_69 (lx : am_Lx) : am_Ok lx am_mt (am_cd lx) 69 := ⟨by decide +kernel, by decide +kernel, fun pc => am_sd_fetch cs_69 pc⟩
theorem okA_69 (lx : am_Lx) : ∀ y, y < 70 → am_Ok lx am_mt (am_cd lx) y := lt_s (okA_68 lx) (ok_69 lx)
theorem ok_70 (lx : am_Lx) : am_Ok lx am_mt (am_cd lx) 70 := ⟨by decide +kernel, by decide +kernel, fun pc => am_sd_fetch cs_70 pc⟩
theorem okA_70 (lx : am_Lx) : ∀ y, y < 71 → am_Ok lx am_mt (am_cd lx) y := lt_s (okA_69 lx) (ok_70 lx)
theorem ok_71 (lx : am_Lx) : am_Ok lx am_mt (am_cd lx) 71 := ⟨by decide +kernel, by decide +kernel, fun pc => am_sd_fetch cs_71 pc⟩
theorem okA_71 (lx : am_Lx) : ∀ y, y < 72 → am_Ok lx am_mt (am_cd lx) y := lt_s (okA_70 lx) (ok_71 lx)
theorem ok_72 (lx : am_Lx) : am_Ok lx am_mt (am_cd lx) 72 := ⟨by decide +kernel, by decide +kernel, fun pc => am_sd_fetch cs_72 pc⟩
theorem okA_72 (lx : am_Lx) : ∀ y, y < 73 → am_Ok lx am_mt (am_cd lx) y := lt_s (okA_71 lx) (ok_72 lx)
theorem ok_73 (lx : am_Lx) : am_Ok lx am_mt (am_cd lx) 73 := ⟨by decide +kernel, by decide +kernel, fun pc => am_sd_fetch cs_73 pc⟩
theorem okA_73 (lx : am_Lx) : ∀ y, y < 74 → am_Ok lx am_mt (am_cd lx) y := lt_s (okA_72 lx) (ok_73 lx)
theorem ok_74 (lx : am_Lx) : am_Ok lx am_mt (am_cd lx) 74 := ⟨by decide +kernel, by decide +kernel, fun pc => am_sd_fetch cs_74 pc⟩
theorem okA_74 (lx : am_Lx) : ∀ y, y < 75 → am_Ok lx am_mt (am_cd lx) y := lt_s (okA_73 lx) (ok_74 lx)
theorem ok_75 (lx : am_Lx) : am_Ok lx am_mt (am_cd lx) 75 := ⟨by decide +kernel, by decide +kernel, fun pc => am_sd_fetch cs_75 pc⟩
theorem okA_75 (lx : am_Lx) : ∀ y, y < 76 → am_Ok lx am_mt (am_cd lx) y := lt_s (okA_74 lx) (ok_75 lx)
theorem ok_76 (lx : am_Lx) : am_Ok lx am_mt (am_cd lx) 76 := ⟨by decide +kernel, by decide +kernel, fun pc => am_sd_fetch cs_76 pc⟩
theorem okA_76 (lx : am_Lx) : ∀ y, y < 77 → am_Ok lx am_mt (am_cd lx) y := lt_s (okA_75 lx) (ok_76 lx)
theorem ok_77 (lx : am_Lx) : am_Ok lx am_mt (am_cd lx) 77 := ⟨by decide +kernel, by decide +kernel, fun pc => am_sd_fetch cs_77 pc⟩
theorem okA_77 (lx : am_Lx) : ∀ y, y < 78 → am_Ok lx am_mt (am_cd lx) y := lt_s (okA_76 lx) (ok_77 lx)
theorem ok_78 (lx : am_Lx) : am_Ok lx am_mt (am_cd lx) 78 := ⟨by decide +kernel, by decide +kernel, fun pc => am_sd_fetch cs_78 pc⟩
theorem okA_78 (lx : am_Lx) : ∀ y, y < 79 → am_Ok lx am_mt (am_cd lx) y := lt_s (okA_77 lx) (ok_78 lx)
theorem ok_79 (lx : am_Lx) : am_Ok lx am_mt (am_cd lx) 79 := ⟨by decide +kernel, by decide +kernel, fun pc => am_sd_fetch cs_79 pc⟩
theorem okA_79 (lx : am_Lx) : ∀ y, y < 80 → am_Ok lx am_mt (am_cd lx) y := lt_s (okA_78 lx) (ok_79 lx)
theorem ok_80 (lx : am_Lx) : am_Ok lx am_mt (am_cd lx) 80 := ⟨by decide +kernel, by decide +kernel, fun pc => am_sd_fetch cs_80 pc⟩
theorem okA_80 (lx : am_Lx) : ∀ y, y < 81 → am_Ok lx am_mt (am_cd lx) y := lt_s (okA_79 lx) (ok_80 lx)
theorem ok_81 (lx : am_Lx) : am_Ok lx am_mt (am_cd lx) 81 := ⟨by decide +kernel, by decide +kernel, fun pc => am_sd_fetch cs_81 pc⟩
theorem okA_81 (lx : am_Lx) : ∀ y, y < 82 → am_Ok lx am_mt (am_cd lx) y := lt_s (okA_80 lx) (ok_81 lx)
theorem ok_82 (lx : am_Lx) : am_Ok lx am_mt (am_cd lx) 82 := ⟨by decide +kernel, by decide +kernel, fun pc => am_sd_fetch cs_82 pc⟩
theorem okA_82 (lx : am_Lx) : ∀ y, y < 83 → am_Ok lx am_mt (am_cd lx) y := lt_s (okA_81 lx) (ok_82 lx)
theorem ok_83 (lx : am_Lx) : am_Ok lx am_mt (am_cd lx) 83 := ⟨by decide +kernel, by decide +kernel, fun pc => am_sd_fetch cs_83 pc⟩
theorem okA_83 (lx : am_Lx) : ∀ y, y < 84 → am_Ok lx am_mt (am_cd lx) y := lt_s (okA_82 lx) (ok_83 lx)
theorem ok_84 (lx : am_Lx) : am_Ok lx am_mt (am_cd lx) 84 := ⟨by decide +kernel, by decide +kernel, fun pc => am_sd_fetch cs_84 pc⟩
theorem okA_84 (lx : am_Lx) : ∀ y, y < 85 → am_Ok lx am_mt (am_cd lx) y := lt_s (okA_83 lx) (ok_84 lx)
theorem ok_85 (lx : am_Lx) : am_Ok lx am_mt (am_cd lx) 85 := ⟨by decide +kernel, by decide +kernel, fun pc => am_sd_fetch cs_85 pc⟩
theorem okA_85 (lx : am_Lx) : ∀ y, y < 86 → am_Ok lx am_mt (am_cd lx) y := lt_s (okA_84 lx) (ok_85 lx)
theorem ok_86 (lx : am_Lx) : am_Ok lx am_mt (am_cd lx) 86 := ⟨by decide +kernel, by decide +kernel, fun pc => am_sd_fetch cs_86 pc⟩
theorem okA_86 (lx : am_Lx) : ∀ y, y < 87 → am_Ok lx am_mt (am_cd lx) y := lt_s (okA_85 lx) (ok_86 lx)
theorem ok_87 (lx : am_Lx) : am_Ok lx am_mt (am_cd lx) 87 := ⟨by decide +kernel, by decide +kernel, fun pc => am_sd_fetch cs_87 pc⟩
theorem okA_87 (lx : am_Lx) : ∀ y, y < 88 → am_Ok lx am_mt (am_cd lx) y := lt_s (okA_86 lx) (ok_87 lx)
theorem ok_88 (lx : am_Lx) : am_Ok lx am_mt (am_cd lx) 88 := ⟨by decide +kernel, by decide +kernel, fun pc => am_sd_fetch cs_88 pc⟩
theorem okA_88 (lx : am_Lx) : ∀ y, y < 89 → am_Ok lx am_mt (am_cd lx) y := lt_s (okA_87 lx) (ok_88 lx)
theorem ok_89 (lx : am_Lx) : am_Ok lx am_mt (am_cd lx) 89 := ⟨by decide +kernel, by decide +kernel, fun pc => am_sd_fetch cs_89 pc⟩
theorem okA_89 (lx : am_Lx) : ∀ y, y < 90 → am_Ok lx am_mt (am_cd lx) y := lt_s (okA_88 lx) (ok_89 lx)
theorem ok_90 (lx : am_Lx) : am_Ok lx am_mt (am_cd lx) 90 := ⟨by decide +kernel, by decide +kernel, fun pc => am_sd_fetch cs_90 pc⟩
theorem okA_90 (lx : am_Lx) : ∀ y, y < 91 → am_Ok lx am_mt (am_cd lx) y := lt_s (okA_89 lx) (ok_90 lx)
theorem ok_91 (lx : am_Lx) : am_Ok lx am_mt (am_cd lx) 91 := ⟨by decide +kernel, by decide +kernel, fun pc => am_sd_fetch cs_91 pc⟩
theorem okA_91 (lx : am_Lx) : ∀ y, y < 92 → am_Ok lx am_mt (am_cd lx) y := lt_s (okA_90 lx) (ok_91 lx)
theorem ok_92 (lx : am_Lx) : am_Ok lx am_mt (am_cd lx) 92 := ⟨by decide +kernel, by decide +kernel, fun pc => am_sd_fetch cs_92 pc⟩
theorem okA_92 (lx : am_Lx) : ∀ y, y < 93 → am_Ok lx am_mt (am_cd lx) y := lt_s (okA_91 lx) (ok_92 lx)
theorem ok_93 (lx : am_Lx) : am_Ok lx am_mt (am_cd lx) 93 := ⟨by decide +kernel, by decide +kernel, fun pc => am_sd_fetch cs_93 pc⟩
theorem okA_93 (lx : am_Lx) : ∀ y, y < 94 → am_Ok lx am_mt (am_cd lx) y := lt_s (okA_92 lx) (ok_93 lx)
theorem ok_94 (lx : am_Lx) : am_Ok lx am_mt (am_cd lx) 94 := ⟨by decide +kernel, by decide +kernel, fun pc => am_sd_fetch cs_94 pc⟩
theorem okA_94 (lx : am_Lx) : ∀ y, y < 95 → am_Ok lx am_mt (am_cd lx) y := lt_s (okA_93 lx) (ok_94 lx)
theorem ok_95 (lx : am_Lx) : am_Ok lx am_mt (am_cd lx) 95 := ⟨by decide +kernel, by decide +kernel, fun pc => am_sd_fetch cs_95 pc⟩
theorem okA_95 (lx : am_Lx) : ∀ y, y < 96 → am_Ok lx am_mt (am_cd lx) y := lt_s (okA_94 lx) (ok_95 lx)
theorem ok_96 (lx : am_Lx) : am_Ok lx am_mt (am_cd lx) 96 := ⟨by decide +kernel, by decide +kernel, fun pc => am_sd_fetch cs_96 pc⟩
theorem okA_96 (lx : am_Lx) : ∀ y, y < 97 → am_Ok lx am_mt (am_cd lx) y := lt_s (okA_95 lx) (ok_96 lx)
theorem ok_97 (lx : am_Lx) : am_Ok lx am_mt (am_cd lx) 97 := ⟨by decide +kernel, by decide +kernel, fun pc => am_sd_fetch cs_97 pc⟩
theorem okA_97 (lx : am_Lx) : ∀ y, y < 98 → am_Ok lx am_mt (am_cd lx) y := lt_s (okA_96 lx) (ok_97 lx)
theorem ok_98 (lx : am_Lx) : am_Ok lx am_mt (am_cd lx) 98 := ⟨by decide +kernel, by decide +kernel, fun pc => am_sd_fetch cs_98 pc⟩
theorem okA_98 (lx : am_Lx) : ∀ y, y < 99 → am_Ok lx am_mt (am_cd lx) y := lt_s (okA_97 lx) (ok_98 lx)
theorem ok_99 (lx : am_Lx) : am_Ok lx am_mt (am_cd lx) 99 := ⟨by decide +kernel, by decide +kernel, fun pc => am_sd_fetch cs_99 pc⟩
theorem okA_99 (lx : am_Lx) : ∀ y, y < 100 → am_Ok lx am_mt (am_cd lx) y := lt_s (okA_98 lx) (ok_99 lx)
theorem ok_100 (lx : am_Lx) : am_Ok lx am_mt (am_cd lx) 100 := ⟨by decide +kernel, by decide +kernel, fun pc => am_sd_fetch cs_100 pc⟩
theorem okA_100 (lx : am_Lx) : ∀ y, y < 101 → am_Ok lx am_mt (am_cd lx) y := lt_s (okA_99 lx) (ok_100 lx)
theorem ok_101 (lx : am_Lx) : am_Ok lx am_mt (am_cd lx) 101 := ⟨by decide +kernel, by decide +kernel, fun pc => am_sd_fetch cs_101 pc⟩
theorem okA_101 (lx : am_Lx) : ∀ y, y < 102 → am_Ok lx am_mt (am_cd lx) y := lt_s (okA_100 lx) (ok_101 lx)
theorem ok_102 (lx : am_Lx) : am_Ok lx am_mt (am_cd lx) 102 := ⟨by decide +kernel, by decide +kernel, fun pc => am_sd_fetch cs_102 pc⟩
theorem okA_102 (lx : am_Lx) : ∀ y, y < 103 → am_Ok lx am_mt (am_cd lx) y := lt_s (okA_101 lx) (ok_102 lx)
theorem ok_103 (lx : am_Lx) : am_Ok lx am_mt (am_cd lx) 103 := ⟨by decide +kernel, by decide +kernel, fun pc => am_sd_fetch cs_103 pc⟩
theorem okA_103 (lx : am_Lx) : ∀ y, y < 104 → am_Ok lx am_mt (am_cd lx) y := lt_s (okA_102 lx) (ok_103 lx)
theorem ok_104 (lx : am_Lx) : am_Ok lx am_mt (am_cd lx) 104 := ⟨by decide +kernel, by decide +kernel, fun pc => am_sd_fetch cs_104 pc⟩
theorem okA_104 (lx : am_Lx) : ∀ y, y < 105 → am_Ok lx am_mt (am_cd lx) y := lt_s (okA_103 lx) (ok_104 lx)
theorem ok_105 (lx : am_Lx) : am_Ok lx am_mt (am_cd lx) 105 := ⟨by decide +kernel, by decide +kernel, fun pc => am_sd_fetch cs_105 pc⟩
theorem okA_105 (lx : am_Lx) : ∀ y, y < 106 → am_Ok lx am_mt (am_cd lx) y := lt_s (okA_104 lx) (ok_105 lx)
theorem ok_106 (lx : am_Lx) : am_Ok lx am_mt (am_cd lx) 106 := ⟨by decide +kernel, by decide +kernel, fun pc => am_sd_fetch cs_106 pc⟩
theorem okA_106 (lx : am_Lx) : ∀ y, y < 107 → am_Ok lx am_mt (am_cd lx) y := lt_s (okA_105 lx) (ok_106 lx)
theorem ok_107 (lx : am_Lx) : am_Ok lx am_mt (am_cd lx) 107 := ⟨by decide +kernel, by decide +kernel, fun pc => am_sd_fetch cs_107 pc⟩
theorem okA_107 (lx : am_Lx) : ∀ y, y < 108 → am_Ok lx am_mt (am_cd lx) y := lt_s (okA_106 lx) (ok_107 lx)
theorem ok_108 (lx : am_Lx) : am_Ok lx am_mt (am_cd lx) 108 := ⟨by decide +kernel, by decide +kernel, fun pc => am_sd_fetch cs_108 pc⟩
theorem okA_108 (lx : am_Lx) : ∀ y, y < 109 → am_Ok lx am_mt (am_cd lx) y := lt_s (okA_107 lx) (ok_108 lx)
theorem ok_109 (lx : am_Lx) : am_Ok lx am_mt (am_cd lx) 109 := ⟨by decide +kernel, by decide +kernel, fun pc => am_sd_fetch cs_109 pc⟩
theorem okA_109 (lx : am_Lx) : ∀ y, y < 110 → am_Ok lx am_mt (am_cd lx) y := lt_s (okA_108 lx) (ok_109 lx)
theorem ok_110 (lx : am_Lx) : am_Ok lx am_mt (am_cd lx) 110 := ⟨by decide +kernel, by decide +kernel, fun pc => am_sd_fetch cs_110 pc⟩
theorem okA_110 (lx : am_Lx) : ∀ y, y < 111 → am_Ok lx am_mt (am_cd lx) y := lt_s (okA_109 lx) (ok_110 lx)
theorem ok_111 (lx : am_Lx) : am_Ok lx am_mt (am_cd lx) 111 := ⟨by decide +kernel, by decide +kernel, fun pc => am_sd_fetch cs_111 pc⟩
theorem okA_111 (lx : am_Lx) : ∀ y, y < 112 → am_Ok lx am_mt (am_cd lx) y := lt_s (okA_110 lx) (ok_111 lx)
theorem ok_112 (lx : am_Lx) : am_Ok lx am_mt (am_cd lx) 112 := ⟨by decide +kernel, by decide +kernel, fun pc => am_sd_fetch cs_112 pc⟩
theorem okA_112 (lx : am_Lx) : ∀ y, y < 113 → am_Ok lx am_mt (am_cd lx) y := lt_s (okA_111 lx) (ok_112 lx)
theorem ok_113 (lx : am_Lx) : am_Ok lx am_mt (am_cd lx) 113 := ⟨by decide +kernel, by decide +kernel, fun pc => am_sd_fetch cs_113 pc⟩
theorem okA_113 (lx : am_Lx) : ∀ y, y < 114 → am_Ok lx am_mt (am_cd lx) y := lt_s (okA_112 lx) (ok_113 lx)
theorem ok_114 (lx : am_Lx) : am_Ok lx am_mt (am_cd lx) 114 := ⟨by decide +kernel, by decide +kernel, fun pc => am_sd_fetch cs_114 pc⟩
theorem okA_114 (lx : am_Lx) : ∀ y, y < 115 → am_Ok lx am_mt (am_cd lx) y := lt_s (okA_113 lx) (ok_114 lx)
theorem ok_115 (lx : am_Lx) : am_Ok lx am_mt (am_cd lx) 115 := ⟨by decide +kernel, by decide +kernel, fun pc => am_sd_fetch cs_115 pc⟩
theorem okA_115 (lx : am_Lx) : ∀ y, y < 116 → am_Ok lx am_mt (am_cd lx) y := lt_s (okA_114 lx) (ok_115 lx)
theorem ok_116 (lx : am_Lx) : am_Ok lx am_mt (am_cd lx) 116 := ⟨by decide +kernel, by decide +kernel, fun pc => am_sd_fetch cs_116 pc⟩
theorem okA_116 (lx : am_Lx) : ∀ y, y < 117 → am_Ok lx am_mt (am_cd lx) y := lt_s (okA_115 lx) (ok_116 lx)
theorem ok_117 (lx : am_Lx) : am_Ok lx am_mt (am_cd lx) 117 := ⟨by decide +kernel, by decide +kernel, fun pc => am_sd_fetch cs_117 pc⟩
theorem okA_117 (lx : am_Lx) : ∀ y, y < 118 → am_Ok lx am_mt (am_cd lx) y := lt_s (okA_116 lx) (ok_117 lx)
theorem ok_118 (lx : am_Lx) : am_Ok lx am_mt (am_cd lx) 118 := ⟨by decide +kernel, by decide +kernel, fun pc => am_sd_fetch cs_118 pc⟩
theorem okA_118 (lx : am_Lx) : ∀ y, y < 119 → am_Ok lx am_mt (am_cd lx) y := lt_s (okA_117 lx) (ok_118 lx)
theorem ok_119 (lx : am_Lx) : am_Ok lx am_mt (am_cd lx) 119 := ⟨by decide +kernel, by decide +kernel, fun pc => am_sd_fetch cs_119 pc⟩
theorem okA_119 (lx : am_Lx) : ∀ y, y < 120 → am_Ok lx am_mt (am_cd lx) y := lt_s (okA_118 lx) (ok_119 lx)
theorem ok_120 (lx : am_Lx) : am_Ok lx am_mt (am_cd lx) 120 := ⟨by decide +kernel, by decide +kernel, fun pc => am_sd_fetch cs_120 pc⟩
theorem okA_120 (lx : am_Lx) : ∀ y, y < 121 → am_Ok lx am_mt (am_cd lx) y := lt_s (okA_119 lx) (ok_120 lx)
theorem ok_121 (lx : am_Lx) : am_Ok lx am_mt (am_cd lx) 121 := ⟨by decide +kernel, by decide +kernel, fun pc => am_sd_fetch cs_121 pc⟩
theorem okA_121 (lx : am_Lx) : ∀ y, y < 122 → am_Ok lx am_mt (am_cd lx) y := lt_s (okA_120 lx) (ok_121 lx)
theorem ok_122 (lx : am_Lx) : am_Ok lx am_mt (am_cd lx) 122 := ⟨by decide +kernel, by decide +kernel, fun pc => am_sd_fetch cs_122 pc⟩
theorem okA_122 (lx : am_Lx) : ∀ y, y < 123 → am_Ok lx am_mt (am_cd lx) y := lt_s (okA_121 lx) (ok_122 lx)
theorem ok_123 (lx : am_Lx) : am_Ok lx am_mt (am_cd lx) 123 := ⟨by decide +kernel, by decide +kernel, fun pc => am_sd_fetch cs_123 pc⟩
theorem okA_123 (lx : am_Lx) : ∀ y, y < 124 → am_Ok lx am_mt (am_cd lx) y := lt_s (okA_122 lx) (ok_123 lx)
theorem ok_124 (lx : am_Lx) : am_Ok lx am_mt (am_cd lx) 124 := ⟨by decide +kernel, by decide +kernel, fun pc => am_sd_fetch cs_124 pc⟩
theorem okA_124 (lx : am_Lx) : ∀ y, y < 125 → am_Ok lx am_mt (am_cd lx) y := lt_s (okA_123 lx) (ok_124 lx)
theorem ok_125 (lx : am_Lx) : am_Ok lx am_mt (am_cd lx) 125 := ⟨by decide +kernel, by decide +kernel, fun pc => am_sd_fetch cs_125 pc⟩
theorem okA_125 (lx : am_Lx) : ∀ y, y < 126 → am_Ok lx am_mt (am_cd lx) y := lt_s (okA_124 lx) (ok_125 lx)
theorem ok_126 (lx : am_Lx) : am_Ok lx am_mt (am_cd lx) 126 := ⟨by decide +kernel, by decide +kernel, fun pc => am_sd_fetch cs_126 pc⟩
theorem okA_126 (lx : am_Lx) : ∀ y, y < 127 → am_Ok lx am_mt (am_cd lx) y := lt_s (okA_125 lx) (ok_126 lx)
theorem ok_127 (lx : am_Lx) : am_Ok lx am_mt (am_cd lx) 127 := ⟨by decide +kernel, by decide +kernel, fun pc => am_sd_fetch cs_127 pc⟩
theorem okA_127 (lx : am_Lx) : ∀ y, y < 128 → am_Ok lx am_mt (am_cd lx) y := lt_s (okA_126 lx) (ok_127 lx)
theorem ok_128 (lx : am_Lx) : am_Ok lx am_mt (am_cd lx) 128 := ⟨by decide +kernel, by decide +kernel, fun pc => am_sd_fetch cs_128 pc⟩
theorem okA_128 (lx : am_Lx) : ∀ y, y < 129 → am_Ok lx am_mt (am_cd lx) y := lt_s (okA_127 lx) (ok_128 lx)
theorem ok_129 (lx : am_Lx) : am_Ok lx am_mt (am_cd lx) 129 := ⟨by decide +kernel, by decide +kernel, fun pc => am_sd_fetch cs_129 pc⟩
theorem okA_129 (lx : am_Lx) : ∀ y, y < 130 → am_Ok lx am_mt (am_cd lx) y := lt_s (okA_128 lx) (ok_129 lx)
theorem ok_130 (lx : am_Lx) : am_Ok lx am_mt (am_cd lx) 130 := ⟨by decide +kernel, by decide +kernel, fun pc => am_sd_fetch cs_130 pc⟩
theorem okA_130 (lx : am_Lx) : ∀ y, y < 131 → am_Ok lx am_mt (am_cd lx) y := lt_s (okA_129 lx) (ok_130 lx)
theorem ok_131 (lx : am_Lx) : am_Ok lx am_mt (am_cd lx) 131 := ⟨by decide +kernel, by decide +kernel, fun pc => am_sd_fetch cs_131 pc⟩
theorem okA_131 (lx : am_Lx) : ∀ y, y < 132 → am_Ok lx am_mt (am_cd lx) y := lt_s (okA_130 lx) (ok_131 lx)
abbrev am_KA (lx : am_Lx) (d : Nat) : am_K := am_Call 132 am_mt (am_cd lx) d
theorem am_KA_m (lx : am_Lx) (d : Nat) : am_KM (am_KA lx d) := am_Call_m (am_cdm lx) d
theorem am_KA_met (lx : am_Lx) (l : Launch) (D : va_G) (cA : FieldType → ClassId) (S : Nat → Nat) (H0 : Heap) (d y : Nat) (As : List Value) (h : am_H) (Q : am_Q) (hc : am_KA lx d y As h Q) : Met l (am_mt y).1 (am_ws (am_mt y)) (am_rm (am_mt y) d) (am_Pc lx D cA S H0 As h) (am_Qc lx D cA S H0 Q) (am_mt y).2.2.2.2.1 (am_mt y).2.2.2.2.2 (fun q => H0.size ≤ q) := am_sound (okA_131 lx) l D cA S H0 d y As h Q hc
