/-! ===== The model's parser, 7: load ===== -/
def bgR (E : Row) : Row := fun k => if k = 5 then 1 else if k < 391 then 0 else E k
def bgN (E : Row) (c : Nat) : Row := fun k => if k < c then 0 else E k
section MPG
variable {G : qG} {y : Nat → Option qSh} {μ : qMu} {M n s L bg st a e f i b p : Nat} {P Q : PS} {D E : Row} {T : QF} {sti : Int32}
theorem bgN_s {c : Nat} : sv (bgN E c) c 0 = bgN E (c + 1) := by
  funext k
  rw [sv_get]
  unfold bgN
  by_cases h : k = c
  · rw [if_pos h, if_pos (by omega)]
  · rw [if_neg h]
    by_cases h2 : k < c
    · rw [if_pos h2, if_pos (by omega)]
    · rw [if_neg h2, if_neg (by omega)]
theorem t156 {r : Nat} (hr : y r = some (.inr (.inl (1, 391)))) : qR PG G (qEntry PG 156 [.ref r] (MK y μ n s)) = some (.inl none, MK y (stc μ r (bgR (μ r))) n s) := by
  have hs : ∀ k, k < 391 → qR PG G ((fun k => (156, K156_1, [some (.ref r), some (.int (nI k))], [], MK y (stc μ r (bgN (μ r) k)) n s)) k) = qR PG G ((fun k => (156, K156_1, [some (.ref r), some (.int (nI k))], [], MK y (stc μ r (bgN (μ r) k)) n s)) (k + 1)) := by
    intro k hk
    dsimp only
    rw [← bgN_s]
    generalize bgN (μ r) k = E
    have i1 : ¬ (391 : Int32) ≤ nI k := by show ¬ nI 391 ≤ nI k; rw [mI_le (by omega) (by omega)]; omega
    have i2 : ixok (nI k) 391 := ixok_n hk (by decide)
    have z2 : (nI k).toNatClampNeg = k := nI_clamp (by omega)
    conv => lhs; unfold K156_1
    simp -implicitDefEqProofs only [j156_1, j156_2, s_iadd, s_isub, s_imul, s_ineg, s_iand, s_ior, s_ixor, s_ishl, s_ishr, s_iushr, s_i2l, s_l2i, s_i2b, s_i2c, s_ladd, s_lsub, s_lmul, s_lneg, s_land, s_lor, s_lshl, s_lshr, s_lushr, s_lcmp, s_l2d, s_l2f, s_i2d, s_i2f, s_idiv, s_ldiv, s_irem, s_lrem, s_dcmp, s_fcmp, s_ddiv, s_fdiv, s_f2d, s_dup_i, s_dup_r, s_dup2_l, s_dup2_ir, s_pop, s_iconst, s_bipush, s_sipush, s_lconst, s_fconst, s_dconst, s_ldc, s_ldc_w, s_ldc2_w, s_iload, s_iload_n0, s_iload_n1, s_iload_n2, s_iload_n3, s_lload, s_lload_n0, s_lload_n1, s_lload_n2, s_lload_n3, s_fload, s_fload_n0, s_fload_n1, s_fload_n2, s_fload_n3, s_dload, s_dload_n0, s_dload_n1, s_dload_n2, s_dload_n3, s_aload, s_aload_n0, s_aload_n1, s_aload_n2, s_aload_n3, s_istore, s_istore_n0, s_istore_n1, s_istore_n2, s_istore_n3, s_lstore, s_lstore_n0, s_lstore_n1, s_lstore_n2, s_lstore_n3, s_fstore, s_fstore_n0, s_fstore_n1, s_fstore_n2, s_fstore_n3, s_dstore, s_dstore_n0, s_dstore_n1, s_dstore_n2, s_dstore_n3, s_astore, s_astore_n0, s_astore_n1, s_astore_n2, s_astore_n3, s_astoreN_n, s_iinc, s_if_eq, s_if_lt, s_if_ge, s_if_gt, s_if_le, s_if_ne, s_ic_eq, s_ic_lt, s_ic_ge, s_ic_gt, s_ic_le, s_ic_ne, s_ifnn_r, s_ifnn_n, s_goto, s_nop, s_tab, s_getfield, s_putfield, s_anewarray, s_newarray, s_iaload, s_baload, s_caload, s_laload, s_daload, s_aaload, s_iastore, s_bastore, s_castore, s_lastore, s_dastore, s_aastore, s_arraylength, s_lreturn, s_freturn, s_dreturn, s_areturn, s_return, s_new, s_thr, ld_Z, ld_S, kl_Z, pd_0, pd_c, pd_n, ag_i, ag_r, ag_l, ag_n, st_Z, st_On, st_Oi, st_Or, st_Ol, st_S, s2_eq, mk_t, mk_f, mk_n, cl_v, cl_n, cl_if, vl_0, vl_1, vl_2, cv_i, cv_l, cv_d, cv_f, rf_s, qW_n, qW_i, qW_l, qW_r, qMem, x_get, x_putI, x_putL, x_ldL, x_ldI, x_ldA, x_stL, x_stI, x_isO, MK_1, MK_21, List.set_cons_zero, List.set_cons_succ, List.getElem?_cons_zero, List.getElem?_cons_succ, Option.map_some, List.tail_cons, i64_32, Nat.zero_add, Nat.reduceAdd, Nat.reduceLeDiff, Nat.le_refl, if_true, if_false, ite_true, ite_false, reduceIte, lnO, rfO, fn_0, f_0_0, f_0_1, f_0_2, f_0_3, f_0_4, f_0_5, f_0_6, f_0_7, f_0_8, f_0_9, f_0_10, f_0_11, f_0_12, f_0_13, f_0_14, fn_1, f_1_0, f_1_1, f_1_2, f_1_3, f_1_4, fn_2, f_2_0, f_2_1, f_2_2, f_2_3, f_2_4, f_2_5, fn_3, f_3_0, f_3_1, f_3_2, f_3_3, fn_4, f_4_0, f_4_1, f_4_2, f_4_3, f_4_4, f_4_5, fn_5, f_5_0, f_5_1, f_5_2, fn_6, f_6_0, f_6_1, f_6_2, fn_7, f_7_0, f_7_1, f_7_2, f_7_3, f_7_4, fn_8, f_8_0, f_8_1, f_8_2, f_8_3, f_8_4, f_8_5, f_8_6, f_8_7, fn_9, f_9_0, f_9_1, f_9_2, f_9_3, f_9_4, f_9_5, fn_10, f_10_0, f_10_1, f_10_2, f_10_3, f_10_4, f_10_5, f_10_6, f_10_7, f_10_8, f_10_9, f_10_10, f_10_11, f_10_12, f_10_13, f_10_14, f_10_15, f_10_16, f_10_17, f_10_18, f_10_19, f_10_20, f_10_21, f_10_22, f_10_23, Nat.reduceLT, cv_t, x_ld3, x_ld2, x_st3, x_st2, rm_g2, rm_g3, rm_g4, rm_g5, rm_g6, rm_g7, rm_s2, rm_s3, rm_s4, rm_s5, rm_s6, rm_s7, rm_t, hr, stc_eq, stc_stc, i1, i2, z2, mI_inc]
  have s2 := lp hs 0 (Nat.zero_le _)
  try dsimp only at s2
  have s1 : qR PG G (qEntry PG 156 [.ref r] (MK y μ n s)) = qR PG G (156, K156_1, [some (.ref r), some (.int (nI 0))], [], MK y (stc μ r (bgN (μ r) 0)) n s) := by
    have e0 : nI 0 = 0 := rfl
    have e1 : bgN (μ r) 0 = μ r := by
      funext k
      unfold bgN
      rw [if_neg (by omega)]
    rw [e0, e1, stc_self]
    simp -implicitDefEqProofs only [e156, K156_0, j156_1, s_iadd, s_isub, s_imul, s_ineg, s_iand, s_ior, s_ixor, s_ishl, s_ishr, s_iushr, s_i2l, s_l2i, s_i2b, s_i2c, s_ladd, s_lsub, s_lmul, s_lneg, s_land, s_lor, s_lshl, s_lshr, s_lushr, s_lcmp, s_l2d, s_l2f, s_i2d, s_i2f, s_idiv, s_ldiv, s_irem, s_lrem, s_dcmp, s_fcmp, s_ddiv, s_fdiv, s_f2d, s_dup_i, s_dup_r, s_dup2_l, s_dup2_ir, s_pop, s_iconst, s_bipush, s_sipush, s_lconst, s_fconst, s_dconst, s_ldc, s_ldc_w, s_ldc2_w, s_iload, s_iload_n0, s_iload_n1, s_iload_n2, s_iload_n3, s_lload, s_lload_n0, s_lload_n1, s_lload_n2, s_lload_n3, s_fload, s_fload_n0, s_fload_n1, s_fload_n2, s_fload_n3, s_dload, s_dload_n0, s_dload_n1, s_dload_n2, s_dload_n3, s_aload, s_aload_n0, s_aload_n1, s_aload_n2, s_aload_n3, s_istore, s_istore_n0, s_istore_n1, s_istore_n2, s_istore_n3, s_lstore, s_lstore_n0, s_lstore_n1, s_lstore_n2, s_lstore_n3, s_fstore, s_fstore_n0, s_fstore_n1, s_fstore_n2, s_fstore_n3, s_dstore, s_dstore_n0, s_dstore_n1, s_dstore_n2, s_dstore_n3, s_astore, s_astore_n0, s_astore_n1, s_astore_n2, s_astore_n3, s_astoreN_n, s_iinc, s_if_eq, s_if_lt, s_if_ge, s_if_gt, s_if_le, s_if_ne, s_ic_eq, s_ic_lt, s_ic_ge, s_ic_gt, s_ic_le, s_ic_ne, s_ifnn_r, s_ifnn_n, s_goto, s_nop, s_tab, s_getfield, s_putfield, s_anewarray, s_newarray, s_iaload, s_baload, s_caload, s_laload, s_daload, s_aaload, s_iastore, s_bastore, s_castore, s_lastore, s_dastore, s_aastore, s_arraylength, s_lreturn, s_freturn, s_dreturn, s_areturn, s_return, s_new, s_thr, ld_Z, ld_S, kl_Z, pd_0, pd_c, pd_n, ag_i, ag_r, ag_l, ag_n, st_Z, st_On, st_Oi, st_Or, st_Ol, st_S, s2_eq, mk_t, mk_f, mk_n, cl_v, cl_n, cl_if, vl_0, vl_1, vl_2, cv_i, cv_l, cv_d, cv_f, rf_s, qW_n, qW_i, qW_l, qW_r, qMem, x_get, x_putI, x_putL, x_ldL, x_ldI, x_ldA, x_stL, x_stI, x_isO, MK_1, MK_21, List.set_cons_zero, List.set_cons_succ, List.getElem?_cons_zero, List.getElem?_cons_succ, Option.map_some, List.tail_cons, i64_32, Nat.zero_add, Nat.reduceAdd, Nat.reduceLeDiff, Nat.le_refl, if_true, if_false, ite_true, ite_false, reduceIte, lnO, rfO, fn_0, f_0_0, f_0_1, f_0_2, f_0_3, f_0_4, f_0_5, f_0_6, f_0_7, f_0_8, f_0_9, f_0_10, f_0_11, f_0_12, f_0_13, f_0_14, fn_1, f_1_0, f_1_1, f_1_2, f_1_3, f_1_4, fn_2, f_2_0, f_2_1, f_2_2, f_2_3, f_2_4, f_2_5, fn_3, f_3_0, f_3_1, f_3_2, f_3_3, fn_4, f_4_0, f_4_1, f_4_2, f_4_3, f_4_4, f_4_5, fn_5, f_5_0, f_5_1, f_5_2, fn_6, f_6_0, f_6_1, f_6_2, fn_7, f_7_0, f_7_1, f_7_2, f_7_3, f_7_4, fn_8, f_8_0, f_8_1, f_8_2, f_8_3, f_8_4, f_8_5, f_8_6, f_8_7, fn_9, f_9_0, f_9_1, f_9_2, f_9_3, f_9_4, f_9_5, fn_10, f_10_0, f_10_1, f_10_2, f_10_3, f_10_4, f_10_5, f_10_6, f_10_7, f_10_8, f_10_9, f_10_10, f_10_11, f_10_12, f_10_13, f_10_14, f_10_15, f_10_16, f_10_17, f_10_18, f_10_19, f_10_20, f_10_21, f_10_22, f_10_23, Nat.reduceLT, cv_t, x_ld3, x_ld2, x_st3, x_st2, rm_g2, rm_g3, rm_g4, rm_g5, rm_g6, rm_g7, rm_s2, rm_s3, rm_s4, rm_s5, rm_s6, rm_s7, rm_t]
  have e3 : sv (bgN (μ r) 391) 5 1 = bgR (μ r) := by
    funext k
    rw [sv_get]
    unfold bgN bgR
    rfl
  rw [s1, s2, ← e3]
  have i1 : (391 : Int32) ≤ nI 391 := by decide
  have i5 : ixok 5 391 := by constructor <;> decide
  have z5 : (5 : Int32).toNatClampNeg = 5 := rfl
  simp -implicitDefEqProofs only [K156_1, K156_2, j156_2, s_iadd, s_isub, s_imul, s_ineg, s_iand, s_ior, s_ixor, s_ishl, s_ishr, s_iushr, s_i2l, s_l2i, s_i2b, s_i2c, s_ladd, s_lsub, s_lmul, s_lneg, s_land, s_lor, s_lshl, s_lshr, s_lushr, s_lcmp, s_l2d, s_l2f, s_i2d, s_i2f, s_idiv, s_ldiv, s_irem, s_lrem, s_dcmp, s_fcmp, s_ddiv, s_fdiv, s_f2d, s_dup_i, s_dup_r, s_dup2_l, s_dup2_ir, s_pop, s_iconst, s_bipush, s_sipush, s_lconst, s_fconst, s_dconst, s_ldc, s_ldc_w, s_ldc2_w, s_iload, s_iload_n0, s_iload_n1, s_iload_n2, s_iload_n3, s_lload, s_lload_n0, s_lload_n1, s_lload_n2, s_lload_n3, s_fload, s_fload_n0, s_fload_n1, s_fload_n2, s_fload_n3, s_dload, s_dload_n0, s_dload_n1, s_dload_n2, s_dload_n3, s_aload, s_aload_n0, s_aload_n1, s_aload_n2, s_aload_n3, s_istore, s_istore_n0, s_istore_n1, s_istore_n2, s_istore_n3, s_lstore, s_lstore_n0, s_lstore_n1, s_lstore_n2, s_lstore_n3, s_fstore, s_fstore_n0, s_fstore_n1, s_fstore_n2, s_fstore_n3, s_dstore, s_dstore_n0, s_dstore_n1, s_dstore_n2, s_dstore_n3, s_astore, s_astore_n0, s_astore_n1, s_astore_n2, s_astore_n3, s_astoreN_n, s_iinc, s_if_eq, s_if_lt, s_if_ge, s_if_gt, s_if_le, s_if_ne, s_ic_eq, s_ic_lt, s_ic_ge, s_ic_gt, s_ic_le, s_ic_ne, s_ifnn_r, s_ifnn_n, s_goto, s_nop, s_tab, s_getfield, s_putfield, s_anewarray, s_newarray, s_iaload, s_baload, s_caload, s_laload, s_daload, s_aaload, s_iastore, s_bastore, s_castore, s_lastore, s_dastore, s_aastore, s_arraylength, s_lreturn, s_freturn, s_dreturn, s_areturn, s_return, s_new, s_thr, ld_Z, ld_S, kl_Z, pd_0, pd_c, pd_n, ag_i, ag_r, ag_l, ag_n, st_Z, st_On, st_Oi, st_Or, st_Ol, st_S, s2_eq, mk_t, mk_f, mk_n, cl_v, cl_n, cl_if, vl_0, vl_1, vl_2, cv_i, cv_l, cv_d, cv_f, rf_s, qW_n, qW_i, qW_l, qW_r, qMem, x_get, x_putI, x_putL, x_ldL, x_ldI, x_ldA, x_stL, x_stI, x_isO, MK_1, MK_21, List.set_cons_zero, List.set_cons_succ, List.getElem?_cons_zero, List.getElem?_cons_succ, Option.map_some, List.tail_cons, i64_32, Nat.zero_add, Nat.reduceAdd, Nat.reduceLeDiff, Nat.le_refl, if_true, if_false, ite_true, ite_false, reduceIte, lnO, rfO, fn_0, f_0_0, f_0_1, f_0_2, f_0_3, f_0_4, f_0_5, f_0_6, f_0_7, f_0_8, f_0_9, f_0_10, f_0_11, f_0_12, f_0_13, f_0_14, fn_1, f_1_0, f_1_1, f_1_2, f_1_3, f_1_4, fn_2, f_2_0, f_2_1, f_2_2, f_2_3, f_2_4, f_2_5, fn_3, f_3_0, f_3_1, f_3_2, f_3_3, fn_4, f_4_0, f_4_1, f_4_2, f_4_3, f_4_4, f_4_5, fn_5, f_5_0, f_5_1, f_5_2, fn_6, f_6_0, f_6_1, f_6_2, fn_7, f_7_0, f_7_1, f_7_2, f_7_3, f_7_4, fn_8, f_8_0, f_8_1, f_8_2, f_8_3, f_8_4, f_8_5, f_8_6, f_8_7, fn_9, f_9_0, f_9_1, f_9_2, f_9_3, f_9_4, f_9_5, fn_10, f_10_0, f_10_1, f_10_2, f_10_3, f_10_4, f_10_5, f_10_6, f_10_7, f_10_8, f_10_9, f_10_10, f_10_11, f_10_12, f_10_13, f_10_14, f_10_15, f_10_16, f_10_17, f_10_18, f_10_19, f_10_20, f_10_21, f_10_22, f_10_23, Nat.reduceLT, cv_t, x_ld3, x_ld2, x_st3, x_st2, rm_g2, rm_g3, rm_g4, rm_g5, rm_g6, rm_g7, rm_s2, rm_s3, rm_s4, rm_s5, rm_s6, rm_s7, rm_t, hr, stc_eq, stc_stc, i1, i5, z5]
theorem jB_zero : ∀ k, k < 191 → (jB 1 0 0 0 0 0 1 k).1 ≤ (if k = 5 then 1 else 0) ∧ (if k = 5 then 1 else 0) ≤ (jB 1 0 0 0 0 0 1 k).2 := by decide +kernel
theorem J_zero : J 1 0 0 0 0 0 1 (bgR E) := by
  refine ⟨by decide, by unfold Jc; decide, fun k => ?_⟩
  by_cases h : k < 191
  · have := jB_zero k h
    unfold bgR IB
    by_cases h5 : k = 5
    · rw [if_pos h5] at this ⊢
      exact this
    · rw [if_neg h5] at this
      rw [if_neg h5, if_pos (by omega)]
      exact this
  · rw [jB_n (by omega)]
    exact IB_full
theorem clrN_get : ∀ c k, kClrN D c k = if 185 ≤ k ∧ k < 185 + c then 0 else D k
  | 0, k => by rw [kClrN, if_neg (by omega)]
  | c + 1, k => by
    rw [kClrN, sv_get, clrN_get c k]
    by_cases h : k = 185 + c
    · rw [if_pos h, if_pos (by omega)]
    · rw [if_neg h]
      by_cases h2 : 185 ≤ k ∧ k < 185 + c
      · rw [if_pos h2, if_pos (by omega)]
      · rw [if_neg h2, if_neg (by omega)]
theorem RP_zero : RP 0 0 0 0 0 1 (kClr D) (bgR E) := by
  refine ⟨J_zero, fun k hk => ?_, ⟨fun q _ h => ?_, fun q _ h => ?_, fun q h => ?_⟩, ?_, ?_, ?_⟩
  · have hk2 : k < 8 ∨ (185 ≤ k ∧ k < 191) := by unfold Live at hk; omega
    unfold kClr bgR
    rw [sv_get, if_neg (by omega), sv_get, if_neg (by omega), clrN_get]
    rcases hk2 with h | h
    · rw [if_neg (by omega)]
      unfold kClr0
      have h' : k = 0 ∨ k = 1 ∨ k = 2 ∨ k = 3 ∨ k = 4 ∨ k = 5 ∨ k = 6 ∨ k = 7 := by omega
      rcases h' with rfl | rfl | rfl | rfl | rfl | rfl | rfl | rfl <;> rfl
    · rw [if_pos h, if_neg (by omega), if_pos (by omega)]
  · unfold bgR
    rw [if_neg (by omega), if_pos (by omega), if_neg (by omega), if_pos (by omega)]
    exact ⟨rfl, rfl⟩
  · unfold bgR
    rw [if_neg (by omega), if_pos (by omega), if_neg (by omega), if_pos (by omega)]
    exact ⟨rfl, rfl⟩
  · unfold bgR
    rw [if_neg (by omega), if_pos (by omega)]
  · rfl
  · rfl
  · rfl
/-- the state behind a statement; what reading on gives -/
theorem t160_l (hM : ML y M) (hA : MA y M) (hT : HB (μ (M + 7)) T L) (hL : L ≤ 900) (hX : TX G y μ M) : ∀ k i P D P1 E1 bg, i + k = 900 → i ≤ P.1 → P.1 ≤ L → P.2.1 = 0 → P1.2 = (stP T L (nI i) P D).2 → ((stP T L (nI i) P D).2.1 = 0 → P1 = stP T L (nI i) P D ∧ ∃ a e f i' b p, RP a e f i' b p (stD T L (nI i) P D) E1) →
    ∃ bg' i' P' E', qR PG G (160, K160_1, [some (.ref M)], [], MK y (PQ μ M L bg i P1 E1) n s) = qR PG G (160, K160_2, [some (.ref M)], [], MK y (PQ μ M L bg' i' P' E') n s) ∧ i' ≤ 900 ∧ P'.2.1 = (rdL T L (k + 1) i P D).1.2.1 ∧ P'.2.2.1 = (rdL T L (k + 1) i P D).1.2.2.1 ∧ (P'.2.1 ≠ 0 → (rdL T L (k + 1) i P D).1.2.2.2 = nI i') ∧ (P'.2.1 = 0 → ∃ a e f i3 b p, RP a e f i3 b p (rdL T L (k + 1) i P D).2.1 E') := by
  intro k
  induction k with
  | zero =>
    intro i P D P1 E1 bg hi hiP hPL he h1 h2
    rw [rdL]
    have hsg : P.1 ≤ (stP T L (nI i) P D).1 := stP_ge
    have hsl : (stP T L (nI i) P D).1 ≤ L := stP_le hPL
    have h4 : I4 (nI i) (stP T L (nI i) P D) := st4 (fun q => absurd he q)
    by_cases hz : (stP T L (nI i) P D).2.1 = 0
    · obtain ⟨e1, hr⟩ := h2 hz
      rw [e1]
      have hse : seR T L (stP T L (nI i) P D) = 0 := by
        rcases seR_01 (T := T) (L := L) (P := stP T L (nI i) P D) with q | q
        · exact q
        · have := seP_gt (st := nI i) (show ¬ seR T L (stP T L (nI i) P D) = 0 by rw [q]; decide)
          have := seP_le (T := T) (st := nI i) hsl
          omega
      rw [if_pos hse]
      obtain ⟨bg', g⟩ := (t179 (G := G) (μ := μ) (bg := bg) (st := i) (E := E1) (n := n) (s := s) hM hA hT hL hsl hz).2 hse
      obtain ⟨h0, h1⟩ := hM
      refine ⟨bg', i, seP T L (nI i) (stP T L (nI i) P D), E1, ?_, by omega, rfl, rfl, se4 h4, fun _ => hr⟩
      conv => lhs; unfold K160_1
      simp -implicitDefEqProofs only [j160_2, s_iadd, s_isub, s_imul, s_ineg, s_iand, s_ior, s_ixor, s_ishl, s_ishr, s_iushr, s_i2l, s_l2i, s_i2b, s_i2c, s_ladd, s_lsub, s_lmul, s_lneg, s_land, s_lor, s_lshl, s_lshr, s_lushr, s_lcmp, s_l2d, s_l2f, s_i2d, s_i2f, s_idiv, s_ldiv, s_irem, s_lrem, s_dcmp, s_fcmp, s_ddiv, s_fdiv, s_f2d, s_dup_i, s_dup_r, s_dup2_l, s_dup2_ir, s_pop, s_iconst, s_bipush, s_sipush, s_lconst, s_fconst, s_dconst, s_ldc, s_ldc_w, s_ldc2_w, s_iload, s_iload_n0, s_iload_n1, s_iload_n2, s_iload_n3, s_lload, s_lload_n0, s_lload_n1, s_lload_n2, s_lload_n3, s_fload, s_fload_n0, s_fload_n1, s_fload_n2, s_fload_n3, s_dload, s_dload_n0, s_dload_n1, s_dload_n2, s_dload_n3, s_aload, s_aload_n0, s_aload_n1, s_aload_n2, s_aload_n3, s_istore, s_istore_n0, s_istore_n1, s_istore_n2, s_istore_n3, s_lstore, s_lstore_n0, s_lstore_n1, s_lstore_n2, s_lstore_n3, s_fstore, s_fstore_n0, s_fstore_n1, s_fstore_n2, s_fstore_n3, s_dstore, s_dstore_n0, s_dstore_n1, s_dstore_n2, s_dstore_n3, s_astore, s_astore_n0, s_astore_n1, s_astore_n2, s_astore_n3, s_astoreN_n, s_iinc, s_if_eq, s_if_lt, s_if_ge, s_if_gt, s_if_le, s_if_ne, s_ic_eq, s_ic_lt, s_ic_ge, s_ic_gt, s_ic_le, s_ic_ne, s_ifnn_r, s_ifnn_n, s_goto, s_nop, s_tab, s_getfield, s_putfield, s_anewarray, s_newarray, s_iaload, s_baload, s_caload, s_laload, s_daload, s_aaload, s_iastore, s_bastore, s_castore, s_lastore, s_dastore, s_aastore, s_arraylength, s_lreturn, s_freturn, s_dreturn, s_areturn, s_return, s_new, s_thr, ld_Z, ld_S, kl_Z, pd_0, pd_c, pd_n, ag_i, ag_r, ag_l, ag_n, st_Z, st_On, st_Oi, st_Or, st_Ol, st_S, s2_eq, mk_t, mk_f, mk_n, cl_v, cl_n, cl_if, vl_0, vl_1, vl_2, cv_i, cv_l, cv_d, cv_f, rf_s, qW_n, qW_i, qW_l, qW_r, qMem, x_get, x_putI, x_putL, x_ldL, x_ldI, x_ldA, x_stL, x_stI, x_isO, MK_1, MK_21, List.set_cons_zero, List.set_cons_succ, List.getElem?_cons_zero, List.getElem?_cons_succ, Option.map_some, List.tail_cons, i64_32, Nat.zero_add, Nat.reduceAdd, Nat.reduceLeDiff, Nat.le_refl, if_true, if_false, ite_true, ite_false, reduceIte, lnO, rfO, fn_0, f_0_0, f_0_1, f_0_2, f_0_3, f_0_4, f_0_5, f_0_6, f_0_7, f_0_8, f_0_9, f_0_10, f_0_11, f_0_12, f_0_13, f_0_14, fn_1, f_1_0, f_1_1, f_1_2, f_1_3, f_1_4, fn_2, f_2_0, f_2_1, f_2_2, f_2_3, f_2_4, f_2_5, fn_3, f_3_0, f_3_1, f_3_2, f_3_3, fn_4, f_4_0, f_4_1, f_4_2, f_4_3, f_4_4, f_4_5, fn_5, f_5_0, f_5_1, f_5_2, fn_6, f_6_0, f_6_1, f_6_2, fn_7, f_7_0, f_7_1, f_7_2, f_7_3, f_7_4, fn_8, f_8_0, f_8_1, f_8_2, f_8_3, f_8_4, f_8_5, f_8_6, f_8_7, fn_9, f_9_0, f_9_1, f_9_2, f_9_3, f_9_4, f_9_5, fn_10, f_10_0, f_10_1, f_10_2, f_10_3, f_10_4, f_10_5, f_10_6, f_10_7, f_10_8, f_10_9, f_10_10, f_10_11, f_10_12, f_10_13, f_10_14, f_10_15, f_10_16, f_10_17, f_10_18, f_10_19, f_10_20, f_10_21, f_10_22, f_10_23, Nat.reduceLT, cv_t, x_ld3, x_ld2, x_st3, x_st2, rm_g2, rm_g3, rm_g4, rm_g5, rm_g6, rm_g7, rm_s2, rm_s3, rm_s4, rm_s5, rm_s6, rm_s7, rm_t, c179, g, h0]
    · have hse : seR T L (stP T L (nI i) P D) = 0 := by unfold seR; rw [if_pos (Or.inl hz)]
      have hsp : (seP T L (nI i) (stP T L (nI i) P D)).2 = (stP T L (nI i) P D).2 := by unfold seP; rw [if_pos (Or.inl hz)]; rfl
      rw [if_pos hse]
      have g := t179e (G := G) (μ := μ) (L := L) (bg := bg) (st := i) (P := P1) (E := E1) (n := n) (s := s) hM (by rw [h1]; exact hz)
      obtain ⟨h0, h1'⟩ := hM
      refine ⟨bg, i, P1, E1, ?_, by omega, by dsimp only; rw [h1, hsp], by dsimp only; rw [h1, hsp], fun _ => by dsimp only; rw [hsp]; exact h4 hz, fun q => absurd q (by rw [h1]; exact hz)⟩
      conv => lhs; unfold K160_1
      simp -implicitDefEqProofs only [j160_2, s_iadd, s_isub, s_imul, s_ineg, s_iand, s_ior, s_ixor, s_ishl, s_ishr, s_iushr, s_i2l, s_l2i, s_i2b, s_i2c, s_ladd, s_lsub, s_lmul, s_lneg, s_land, s_lor, s_lshl, s_lshr, s_lushr, s_lcmp, s_l2d, s_l2f, s_i2d, s_i2f, s_idiv, s_ldiv, s_irem, s_lrem, s_dcmp, s_fcmp, s_ddiv, s_fdiv, s_f2d, s_dup_i, s_dup_r, s_dup2_l, s_dup2_ir, s_pop, s_iconst, s_bipush, s_sipush, s_lconst, s_fconst, s_dconst, s_ldc, s_ldc_w, s_ldc2_w, s_iload, s_iload_n0, s_iload_n1, s_iload_n2, s_iload_n3, s_lload, s_lload_n0, s_lload_n1, s_lload_n2, s_lload_n3, s_fload, s_fload_n0, s_fload_n1, s_fload_n2, s_fload_n3, s_dload, s_dload_n0, s_dload_n1, s_dload_n2, s_dload_n3, s_aload, s_aload_n0, s_aload_n1, s_aload_n2, s_aload_n3, s_istore, s_istore_n0, s_istore_n1, s_istore_n2, s_istore_n3, s_lstore, s_lstore_n0, s_lstore_n1, s_lstore_n2, s_lstore_n3, s_fstore, s_fstore_n0, s_fstore_n1, s_fstore_n2, s_fstore_n3, s_dstore, s_dstore_n0, s_dstore_n1, s_dstore_n2, s_dstore_n3, s_astore, s_astore_n0, s_astore_n1, s_astore_n2, s_astore_n3, s_astoreN_n, s_iinc, s_if_eq, s_if_lt, s_if_ge, s_if_gt, s_if_le, s_if_ne, s_ic_eq, s_ic_lt, s_ic_ge, s_ic_gt, s_ic_le, s_ic_ne, s_ifnn_r, s_ifnn_n, s_goto, s_nop, s_tab, s_getfield, s_putfield, s_anewarray, s_newarray, s_iaload, s_baload, s_caload, s_laload, s_daload, s_aaload, s_iastore, s_bastore, s_castore, s_lastore, s_dastore, s_aastore, s_arraylength, s_lreturn, s_freturn, s_dreturn, s_areturn, s_return, s_new, s_thr, ld_Z, ld_S, kl_Z, pd_0, pd_c, pd_n, ag_i, ag_r, ag_l, ag_n, st_Z, st_On, st_Oi, st_Or, st_Ol, st_S, s2_eq, mk_t, mk_f, mk_n, cl_v, cl_n, cl_if, vl_0, vl_1, vl_2, cv_i, cv_l, cv_d, cv_f, rf_s, qW_n, qW_i, qW_l, qW_r, qMem, x_get, x_putI, x_putL, x_ldL, x_ldI, x_ldA, x_stL, x_stI, x_isO, MK_1, MK_21, List.set_cons_zero, List.set_cons_succ, List.getElem?_cons_zero, List.getElem?_cons_succ, Option.map_some, List.tail_cons, i64_32, Nat.zero_add, Nat.reduceAdd, Nat.reduceLeDiff, Nat.le_refl, if_true, if_false, ite_true, ite_false, reduceIte, lnO, rfO, fn_0, f_0_0, f_0_1, f_0_2, f_0_3, f_0_4, f_0_5, f_0_6, f_0_7, f_0_8, f_0_9, f_0_10, f_0_11, f_0_12, f_0_13, f_0_14, fn_1, f_1_0, f_1_1, f_1_2, f_1_3, f_1_4, fn_2, f_2_0, f_2_1, f_2_2, f_2_3, f_2_4, f_2_5, fn_3, f_3_0, f_3_1, f_3_2, f_3_3, fn_4, f_4_0, f_4_1, f_4_2, f_4_3, f_4_4, f_4_5, fn_5, f_5_0, f_5_1, f_5_2, fn_6, f_6_0, f_6_1, f_6_2, fn_7, f_7_0, f_7_1, f_7_2, f_7_3, f_7_4, fn_8, f_8_0, f_8_1, f_8_2, f_8_3, f_8_4, f_8_5, f_8_6, f_8_7, fn_9, f_9_0, f_9_1, f_9_2, f_9_3, f_9_4, f_9_5, fn_10, f_10_0, f_10_1, f_10_2, f_10_3, f_10_4, f_10_5, f_10_6, f_10_7, f_10_8, f_10_9, f_10_10, f_10_11, f_10_12, f_10_13, f_10_14, f_10_15, f_10_16, f_10_17, f_10_18, f_10_19, f_10_20, f_10_21, f_10_22, f_10_23, Nat.reduceLT, cv_t, x_ld3, x_ld2, x_st3, x_st2, rm_g2, rm_g3, rm_g4, rm_g5, rm_g6, rm_g7, rm_s2, rm_s3, rm_s4, rm_s5, rm_s6, rm_s7, rm_t, c179, g, h0]
  | succ k ih =>
    intro i P D P1 E1 bg hi hiP hPL he h1 h2
    rw [rdL]
    have hsg : P.1 ≤ (stP T L (nI i) P D).1 := stP_ge
    have hsl : (stP T L (nI i) P D).1 ≤ L := stP_le hPL
    have h4 : I4 (nI i) (stP T L (nI i) P D) := st4 (fun q => absurd he q)
    by_cases hz : (stP T L (nI i) P D).2.1 = 0
    · obtain ⟨e1, hr⟩ := h2 hz
      rw [e1]
      rcases seR_01 (T := T) (L := L) (P := stP T L (nI i) P D) with hse | hse
      · rw [if_pos hse]
        obtain ⟨bg', g⟩ := (t179 (G := G) (μ := μ) (bg := bg) (st := i) (E := E1) (n := n) (s := s) hM hA hT hL hsl hz).2 hse
        obtain ⟨h0, h1⟩ := hM
        refine ⟨bg', i, seP T L (nI i) (stP T L (nI i) P D), E1, ?_, by omega, rfl, rfl, se4 h4, fun _ => hr⟩
        conv => lhs; unfold K160_1
        simp -implicitDefEqProofs only [j160_2, s_iadd, s_isub, s_imul, s_ineg, s_iand, s_ior, s_ixor, s_ishl, s_ishr, s_iushr, s_i2l, s_l2i, s_i2b, s_i2c, s_ladd, s_lsub, s_lmul, s_lneg, s_land, s_lor, s_lshl, s_lshr, s_lushr, s_lcmp, s_l2d, s_l2f, s_i2d, s_i2f, s_idiv, s_ldiv, s_irem, s_lrem, s_dcmp, s_fcmp, s_ddiv, s_fdiv, s_f2d, s_dup_i, s_dup_r, s_dup2_l, s_dup2_ir, s_pop, s_iconst, s_bipush, s_sipush, s_lconst, s_fconst, s_dconst, s_ldc, s_ldc_w, s_ldc2_w, s_iload, s_iload_n0, s_iload_n1, s_iload_n2, s_iload_n3, s_lload, s_lload_n0, s_lload_n1, s_lload_n2, s_lload_n3, s_fload, s_fload_n0, s_fload_n1, s_fload_n2, s_fload_n3, s_dload, s_dload_n0, s_dload_n1, s_dload_n2, s_dload_n3, s_aload, s_aload_n0, s_aload_n1, s_aload_n2, s_aload_n3, s_istore, s_istore_n0, s_istore_n1, s_istore_n2, s_istore_n3, s_lstore, s_lstore_n0, s_lstore_n1, s_lstore_n2, s_lstore_n3, s_fstore, s_fstore_n0, s_fstore_n1, s_fstore_n2, s_fstore_n3, s_dstore, s_dstore_n0, s_dstore_n1, s_dstore_n2, s_dstore_n3, s_astore, s_astore_n0, s_astore_n1, s_astore_n2, s_astore_n3, s_astoreN_n, s_iinc, s_if_eq, s_if_lt, s_if_ge, s_if_gt, s_if_le, s_if_ne, s_ic_eq, s_ic_lt, s_ic_ge, s_ic_gt, s_ic_le, s_ic_ne, s_ifnn_r, s_ifnn_n, s_goto, s_nop, s_tab, s_getfield, s_putfield, s_anewarray, s_newarray, s_iaload, s_baload, s_caload, s_laload, s_daload, s_aaload, s_iastore, s_bastore, s_castore, s_lastore, s_dastore, s_aastore, s_arraylength, s_lreturn, s_freturn, s_dreturn, s_areturn, s_return, s_new, s_thr, ld_Z, ld_S, kl_Z, pd_0, pd_c, pd_n, ag_i, ag_r, ag_l, ag_n, st_Z, st_On, st_Oi, st_Or, st_Ol, st_S, s2_eq, mk_t, mk_f, mk_n, cl_v, cl_n, cl_if, vl_0, vl_1, vl_2, cv_i, cv_l, cv_d, cv_f, rf_s, qW_n, qW_i, qW_l, qW_r, qMem, x_get, x_putI, x_putL, x_ldL, x_ldI, x_ldA, x_stL, x_stI, x_isO, MK_1, MK_21, List.set_cons_zero, List.set_cons_succ, List.getElem?_cons_zero, List.getElem?_cons_succ, Option.map_some, List.tail_cons, i64_32, Nat.zero_add, Nat.reduceAdd, Nat.reduceLeDiff, Nat.le_refl, if_true, if_false, ite_true, ite_false, reduceIte, lnO, rfO, fn_0, f_0_0, f_0_1, f_0_2, f_0_3, f_0_4, f_0_5, f_0_6, f_0_7, f_0_8, f_0_9, f_0_10, f_0_11, f_0_12, f_0_13, f_0_14, fn_1, f_1_0, f_1_1, f_1_2, f_1_3, f_1_4, fn_2, f_2_0, f_2_1, f_2_2, f_2_3, f_2_4, f_2_5, fn_3, f_3_0, f_3_1, f_3_2, f_3_3, fn_4, f_4_0, f_4_1, f_4_2, f_4_3, f_4_4, f_4_5, fn_5, f_5_0, f_5_1, f_5_2, fn_6, f_6_0, f_6_1, f_6_2, fn_7, f_7_0, f_7_1, f_7_2, f_7_3, f_7_4, fn_8, f_8_0, f_8_1, f_8_2, f_8_3, f_8_4, f_8_5, f_8_6, f_8_7, fn_9, f_9_0, f_9_1, f_9_2, f_9_3, f_9_4, f_9_5, fn_10, f_10_0, f_10_1, f_10_2, f_10_3, f_10_4, f_10_5, f_10_6, f_10_7, f_10_8, f_10_9, f_10_10, f_10_11, f_10_12, f_10_13, f_10_14, f_10_15, f_10_16, f_10_17, f_10_18, f_10_19, f_10_20, f_10_21, f_10_22, f_10_23, Nat.reduceLT, cv_t, x_ld3, x_ld2, x_st3, x_st2, rm_g2, rm_g3, rm_g4, rm_g5, rm_g6, rm_g7, rm_s2, rm_s3, rm_s4, rm_s5, rm_s6, rm_s7, rm_t, c179, g, h0]
      · have nse : ¬ seR T L (stP T L (nI i) P D) = 0 := by rw [hse]; decide
        rw [if_neg nse]
        obtain ⟨bg', g⟩ := (t179 (G := G) (μ := μ) (bg := bg) (st := i) (E := E1) (n := n) (s := s) hM hA hT hL hsl hz).1 hse
        have hgt := seP_gt (st := nI i) nse
        have hle := seP_le (T := T) (st := nI i) hsl
        have hez : (seP T L (nI i) (stP T L (nI i) P D)).2.1 = 0 := by
          unfold seP
          unfold seR at nse
          by_cases c1 : ¬ (stP T L (nI i) P D).2.1 = 0 ∨ L ≤ (skP T L (stP T L (nI i) P D)).1
          · rw [if_pos c1] at nse; exact absurd rfl nse
          · rw [if_neg c1] at nse ⊢
            by_cases c2 : (T (skP T L (stP T L (nI i) P D)).1).toInt32 = 59
            · rw [if_pos c2]; exact hz
            · rw [if_neg c2] at nse; exact absurd rfl nse
        obtain ⟨a, e, f, i2, b, p, hRP⟩ := hr
        generalize seP T L (nI i) (stP T L (nI i) P D) = S at g hgt hle hez ⊢
        generalize stD T L (nI i) P D = D2 at hRP ⊢
        obtain ⟨bg2, E2, P2, g2, r1, r2⟩ := t161 (G := G) (μ := μ) (bg := bg') (st := i + 1) (n := n) (s := s) hM hA hT hL hle hX hRP hez
        obtain ⟨bg3, i3, P3, E3, hq, hrest⟩ := ih (i + 1) S D2 P2 E2 bg2 (by omega) (by omega) hle hez r1 r2
        refine ⟨bg3, i3, P3, E3, ?_, hrest⟩
        rw [← hq]
        have n1 : ((1 : Int32) = 0) = False := by decide
        obtain ⟨h0, h1⟩ := hM
        conv => lhs; unfold K160_1
        simp -implicitDefEqProofs only [j160_1, j160_2, s_iadd, s_isub, s_imul, s_ineg, s_iand, s_ior, s_ixor, s_ishl, s_ishr, s_iushr, s_i2l, s_l2i, s_i2b, s_i2c, s_ladd, s_lsub, s_lmul, s_lneg, s_land, s_lor, s_lshl, s_lshr, s_lushr, s_lcmp, s_l2d, s_l2f, s_i2d, s_i2f, s_idiv, s_ldiv, s_irem, s_lrem, s_dcmp, s_fcmp, s_ddiv, s_fdiv, s_f2d, s_dup_i, s_dup_r, s_dup2_l, s_dup2_ir, s_pop, s_iconst, s_bipush, s_sipush, s_lconst, s_fconst, s_dconst, s_ldc, s_ldc_w, s_ldc2_w, s_iload, s_iload_n0, s_iload_n1, s_iload_n2, s_iload_n3, s_lload, s_lload_n0, s_lload_n1, s_lload_n2, s_lload_n3, s_fload, s_fload_n0, s_fload_n1, s_fload_n2, s_fload_n3, s_dload, s_dload_n0, s_dload_n1, s_dload_n2, s_dload_n3, s_aload, s_aload_n0, s_aload_n1, s_aload_n2, s_aload_n3, s_istore, s_istore_n0, s_istore_n1, s_istore_n2, s_istore_n3, s_lstore, s_lstore_n0, s_lstore_n1, s_lstore_n2, s_lstore_n3, s_fstore, s_fstore_n0, s_fstore_n1, s_fstore_n2, s_fstore_n3, s_dstore, s_dstore_n0, s_dstore_n1, s_dstore_n2, s_dstore_n3, s_astore, s_astore_n0, s_astore_n1, s_astore_n2, s_astore_n3, s_astoreN_n, s_iinc, s_if_eq, s_if_lt, s_if_ge, s_if_gt, s_if_le, s_if_ne, s_ic_eq, s_ic_lt, s_ic_ge, s_ic_gt, s_ic_le, s_ic_ne, s_ifnn_r, s_ifnn_n, s_goto, s_nop, s_tab, s_getfield, s_putfield, s_anewarray, s_newarray, s_iaload, s_baload, s_caload, s_laload, s_daload, s_aaload, s_iastore, s_bastore, s_castore, s_lastore, s_dastore, s_aastore, s_arraylength, s_lreturn, s_freturn, s_dreturn, s_areturn, s_return, s_new, s_thr, ld_Z, ld_S, kl_Z, pd_0, pd_c, pd_n, ag_i, ag_r, ag_l, ag_n, st_Z, st_On, st_Oi, st_Or, st_Ol, st_S, s2_eq, mk_t, mk_f, mk_n, cl_v, cl_n, cl_if, vl_0, vl_1, vl_2, cv_i, cv_l, cv_d, cv_f, rf_s, qW_n, qW_i, qW_l, qW_r, qMem, x_get, x_putI, x_putL, x_ldL, x_ldI, x_ldA, x_stL, x_stI, x_isO, MK_1, MK_21, List.set_cons_zero, List.set_cons_succ, List.getElem?_cons_zero, List.getElem?_cons_succ, Option.map_some, List.tail_cons, i64_32, Nat.zero_add, Nat.reduceAdd, Nat.reduceLeDiff, Nat.le_refl, if_true, if_false, ite_true, ite_false, reduceIte, lnO, rfO, fn_0, f_0_0, f_0_1, f_0_2, f_0_3, f_0_4, f_0_5, f_0_6, f_0_7, f_0_8, f_0_9, f_0_10, f_0_11, f_0_12, f_0_13, f_0_14, fn_1, f_1_0, f_1_1, f_1_2, f_1_3, f_1_4, fn_2, f_2_0, f_2_1, f_2_2, f_2_3, f_2_4, f_2_5, fn_3, f_3_0, f_3_1, f_3_2, f_3_3, fn_4, f_4_0, f_4_1, f_4_2, f_4_3, f_4_4, f_4_5, fn_5, f_5_0, f_5_1, f_5_2, fn_6, f_6_0, f_6_1, f_6_2, fn_7, f_7_0, f_7_1, f_7_2, f_7_3, f_7_4, fn_8, f_8_0, f_8_1, f_8_2, f_8_3, f_8_4, f_8_5, f_8_6, f_8_7, fn_9, f_9_0, f_9_1, f_9_2, f_9_3, f_9_4, f_9_5, fn_10, f_10_0, f_10_1, f_10_2, f_10_3, f_10_4, f_10_5, f_10_6, f_10_7, f_10_8, f_10_9, f_10_10, f_10_11, f_10_12, f_10_13, f_10_14, f_10_15, f_10_16, f_10_17, f_10_18, f_10_19, f_10_20, f_10_21, f_10_22, f_10_23, Nat.reduceLT, cv_t, x_ld3, x_ld2, x_st3, x_st2, rm_g2, rm_g3, rm_g4, rm_g5, rm_g6, rm_g7, rm_s2, rm_s3, rm_s4, rm_s5, rm_s6, rm_s7, rm_t, c161, c179, g, g2, h0, n1]
    · have hse : seR T L (stP T L (nI i) P D) = 0 := by unfold seR; rw [if_pos (Or.inl hz)]
      have hsp : (seP T L (nI i) (stP T L (nI i) P D)).2 = (stP T L (nI i) P D).2 := by unfold seP; rw [if_pos (Or.inl hz)]; rfl
      rw [if_pos hse]
      have g := t179e (G := G) (μ := μ) (L := L) (bg := bg) (st := i) (P := P1) (E := E1) (n := n) (s := s) hM (by rw [h1]; exact hz)
      obtain ⟨h0, h1'⟩ := hM
      refine ⟨bg, i, P1, E1, ?_, by omega, by dsimp only; rw [h1, hsp], by dsimp only; rw [h1, hsp], fun _ => by dsimp only; rw [hsp]; exact h4 hz, fun q => absurd q (by rw [h1]; exact hz)⟩
      conv => lhs; unfold K160_1
      simp -implicitDefEqProofs only [j160_2, s_iadd, s_isub, s_imul, s_ineg, s_iand, s_ior, s_ixor, s_ishl, s_ishr, s_iushr, s_i2l, s_l2i, s_i2b, s_i2c, s_ladd, s_lsub, s_lmul, s_lneg, s_land, s_lor, s_lshl, s_lshr, s_lushr, s_lcmp, s_l2d, s_l2f, s_i2d, s_i2f, s_idiv, s_ldiv, s_irem, s_lrem, s_dcmp, s_fcmp, s_ddiv, s_fdiv, s_f2d, s_dup_i, s_dup_r, s_dup2_l, s_dup2_ir, s_pop, s_iconst, s_bipush, s_sipush, s_lconst, s_fconst, s_dconst, s_ldc, s_ldc_w, s_ldc2_w, s_iload, s_iload_n0, s_iload_n1, s_iload_n2, s_iload_n3, s_lload, s_lload_n0, s_lload_n1, s_lload_n2, s_lload_n3, s_fload, s_fload_n0, s_fload_n1, s_fload_n2, s_fload_n3, s_dload, s_dload_n0, s_dload_n1, s_dload_n2, s_dload_n3, s_aload, s_aload_n0, s_aload_n1, s_aload_n2, s_aload_n3, s_istore, s_istore_n0, s_istore_n1, s_istore_n2, s_istore_n3, s_lstore, s_lstore_n0, s_lstore_n1, s_lstore_n2, s_lstore_n3, s_fstore, s_fstore_n0, s_fstore_n1, s_fstore_n2, s_fstore_n3, s_dstore, s_dstore_n0, s_dstore_n1, s_dstore_n2, s_dstore_n3, s_astore, s_astore_n0, s_astore_n1, s_astore_n2, s_astore_n3, s_astoreN_n, s_iinc, s_if_eq, s_if_lt, s_if_ge, s_if_gt, s_if_le, s_if_ne, s_ic_eq, s_ic_lt, s_ic_ge, s_ic_gt, s_ic_le, s_ic_ne, s_ifnn_r, s_ifnn_n, s_goto, s_nop, s_tab, s_getfield, s_putfield, s_anewarray, s_newarray, s_iaload, s_baload, s_caload, s_laload, s_daload, s_aaload, s_iastore, s_bastore, s_castore, s_lastore, s_dastore, s_aastore, s_arraylength, s_lreturn, s_freturn, s_dreturn, s_areturn, s_return, s_new, s_thr, ld_Z, ld_S, kl_Z, pd_0, pd_c, pd_n, ag_i, ag_r, ag_l, ag_n, st_Z, st_On, st_Oi, st_Or, st_Ol, st_S, s2_eq, mk_t, mk_f, mk_n, cl_v, cl_n, cl_if, vl_0, vl_1, vl_2, cv_i, cv_l, cv_d, cv_f, rf_s, qW_n, qW_i, qW_l, qW_r, qMem, x_get, x_putI, x_putL, x_ldL, x_ldI, x_ldA, x_stL, x_stI, x_isO, MK_1, MK_21, List.set_cons_zero, List.set_cons_succ, List.getElem?_cons_zero, List.getElem?_cons_succ, Option.map_some, List.tail_cons, i64_32, Nat.zero_add, Nat.reduceAdd, Nat.reduceLeDiff, Nat.le_refl, if_true, if_false, ite_true, ite_false, reduceIte, lnO, rfO, fn_0, f_0_0, f_0_1, f_0_2, f_0_3, f_0_4, f_0_5, f_0_6, f_0_7, f_0_8, f_0_9, f_0_10, f_0_11, f_0_12, f_0_13, f_0_14, fn_1, f_1_0, f_1_1, f_1_2, f_1_3, f_1_4, fn_2, f_2_0, f_2_1, f_2_2, f_2_3, f_2_4, f_2_5, fn_3, f_3_0, f_3_1, f_3_2, f_3_3, fn_4, f_4_0, f_4_1, f_4_2, f_4_3, f_4_4, f_4_5, fn_5, f_5_0, f_5_1, f_5_2, fn_6, f_6_0, f_6_1, f_6_2, fn_7, f_7_0, f_7_1, f_7_2, f_7_3, f_7_4, fn_8, f_8_0, f_8_1, f_8_2, f_8_3, f_8_4, f_8_5, f_8_6, f_8_7, fn_9, f_9_0, f_9_1, f_9_2, f_9_3, f_9_4, f_9_5, fn_10, f_10_0, f_10_1, f_10_2, f_10_3, f_10_4, f_10_5, f_10_6, f_10_7, f_10_8, f_10_9, f_10_10, f_10_11, f_10_12, f_10_13, f_10_14, f_10_15, f_10_16, f_10_17, f_10_18, f_10_19, f_10_20, f_10_21, f_10_22, f_10_23, Nat.reduceLT, cv_t, x_ld3, x_ld2, x_st3, x_st2, rm_g2, rm_g3, rm_g4, rm_g5, rm_g6, rm_g7, rm_s2, rm_s3, rm_s4, rm_s5, rm_s6, rm_s7, rm_t, c179, g, h0]
theorem J.of391 {N : Nat} (h : J N a e f i b p E) (hk : R391 D E) : J N a e f i b p D := by
  refine ⟨h.1, h.2.1, fun k => ?_⟩
  by_cases hq : k < 391
  · rw [hk k hq]; exact h.2.2 k
  · rw [jB_n (by omega)]; exact IB_full
/-- load -/
theorem t160 (hM : ML y M) (hA : MA y M) (hT : HB (μ (M + 7)) T L) (hL : L ≤ 900) (hX : TX G y μ M) (h9 : μ M 9 = (nI L).toInt64) (h11 : μ M 11 = (nI bg).toInt64) {x4 ea : Int32} (h13 : μ M 13 = ea.toInt64) {D0 : Row} : ∃ d E' D', qR PG G (qEntry PG 160 [.ref M] (MK y (stc μ (M + 1) D0) n s)) = some (.inl (some (.int (if (rdL T L 901 0 (0, 0, ea, x4) (kClr D)).1.2.1 = 0 then (D' 1).toInt32 else -100 - (rdL T L 901 0 (0, 0, ea, x4) (kClr D)).1.2.2.1))), MK y (stc (stc (stc μ M d) (M + 2) E') (M + 1) D') n s) ∧
    d 7 = 0 ∧ d 9 = 0 ∧ (∃ bg', d 11 = (nI bg').toInt64) ∧ d 13 = (rdL T L 901 0 (0, 0, ea, x4) (kClr D)).1.2.2.1.toInt64 ∧ d 15 = (rdL T L 901 0 (0, 0, ea, x4) (kClr D)).1.2.1.toInt64 ∧ d 16 = (if (rdL T L 901 0 (0, 0, ea, x4) (kClr D)).1.2.1 = 0 then -1 else (rdL T L 901 0 (0, 0, ea, x4) (kClr D)).1.2.2.2.toInt64) ∧
    (if (rdL T L 901 0 (0, 0, ea, x4) (kClr D)).1.2.1 = 0 then d 6 = 0 ∧ ∃ a e f i b p, RP a e f i b p (rdL T L 901 0 (0, 0, ea, x4) (kClr D)).2.1 E' ∧ R391 D' E' else d 6 = μ M 6 ∧ D' = D0) := by
  have hM' := hM
  have h2 := hA.1
  have z0 : Int32.toInt64 0 = 0 := rfl
  have n0 : nI 0 = 0 := rfl
  -- the start
  obtain ⟨ν, hν⟩ : ∃ ν, stc (stc μ (M + 1) D0) M (sv (μ M) 7 0) = ν := ⟨_, rfl⟩
  have v9 : ν M 9 = (nI L).toInt64 := by rw [← hν, stc_eq, sv_get, if_neg (by decide)]; exact h9
  have v11 : ν M 11 = (nI bg).toInt64 := by rw [← hν, stc_eq, sv_get, if_neg (by decide)]; exact h11
  have v13 : ν M 13 = ea.toInt64 := by rw [← hν, stc_eq, sv_get, if_neg (by decide)]; exact h13
  have vT : HB (ν (M + 7)) T L := by rw [← hν, stc_ne (by omega), stc_ne (by omega)]; exact hT
  have vX : TX G y ν M := by rw [← hν]; exact (hX.stc (by omega)).stc (Nat.le_refl _)
  have v1 : ν (M + 1) = D0 := by rw [← hν, stc_ne (by omega), stc_eq]
  have e0 : stc ν M (sv (sv (sv (ν M) 10 0) 12 0) 14 0) = PQ ν M L bg 0 (0, 0, ea, x4) (ν (M + 2)) := by
    unfold PQ
    have : stc (stc ν M (mS (ν M) L bg 0 (0, 0, ea, x4))) (M + 2) (ν (M + 2)) = stc ν M (mS (ν M) L bg 0 (0, 0, ea, x4)) := by
      have := stc_self (stc ν M (mS (ν M) L bg 0 (0, 0, ea, x4))) (M + 2)
      rwa [stc_ne (show M + 2 ≠ M by omega)] at this
    rw [this]
    refine congrArg (stc ν M) ?_
    funext k
    simp only [sv_get]
    unfold mS
    dsimp only
    by_cases k9 : k = 9
    · rw [k9]; exact v9
    by_cases k10 : k = 10
    · rw [k10]; rfl
    by_cases k11 : k = 11
    · rw [k11]; exact v11
    by_cases k12 : k = 12
    · rw [k12]; rfl
    by_cases k13 : k = 13
    · rw [k13]; exact v13
    by_cases k14 : k = 14
    · rw [k14]; rfl
    simp only [if_neg k9, if_neg k10, if_neg k11, if_neg k12, if_neg k13, if_neg k14]
  have gb := t156 (G := G) (μ := PQ ν M L bg 0 (0, 0, ea, x4) (ν (M + 2))) (n := n) (s := s) h2
  rw [pq_E, pq_sE] at gb
  obtain ⟨bg1, E1, P1, g1, r1, r2⟩ := t161 (G := G) (μ := ν) (bg := bg) (st := 0) (n := n) (s := s) (P := (0, 0, ea, x4)) (D := kClr D) hM hA vT hL (Nat.zero_le _) vX (RP_zero (D := D) (E := ν (M + 2))) rfl
  obtain ⟨bg2, i2, P2, E2, g2, hi2, hP1, hP2, hP3, hP4⟩ := t160_l (G := G) (μ := ν) (n := n) (s := s) hM hA vT hL vX 900 0 (0, 0, ea, x4) (kClr D) P1 E1 bg1 rfl (Nat.le_refl _) (Nat.zero_le _) rfl r1 r2
  have s0 : qR PG G (qEntry PG 160 [.ref M] (MK y (stc μ (M + 1) D0) n s)) = qR PG G (160, K160_2, [some (.ref M)], [], MK y (PQ ν M L bg2 i2 P2 E2) n s) := by
    rw [← g2]
    have a1 : stc μ (M + 1) D0 M = μ M := stc_ne (by omega)
    have hνM : ν M = sv (μ M) 7 0 := by rw [← hν, stc_eq]
    have a2 : stc (stc μ (M + 1) D0) M (sv (sv (sv (sv (μ M) 7 0) 10 0) 12 0) 14 0) = PQ ν M L bg 0 (0, 0, ea, x4) (ν (M + 2)) := by
      rw [← e0, hνM, ← hν, stc_stc]
    obtain ⟨h0, h1⟩ := hM
    simp -implicitDefEqProofs only [e160, K160_0, j160_1, s_iadd, s_isub, s_imul, s_ineg, s_iand, s_ior, s_ixor, s_ishl, s_ishr, s_iushr, s_i2l, s_l2i, s_i2b, s_i2c, s_ladd, s_lsub, s_lmul, s_lneg, s_land, s_lor, s_lshl, s_lshr, s_lushr, s_lcmp, s_l2d, s_l2f, s_i2d, s_i2f, s_idiv, s_ldiv, s_irem, s_lrem, s_dcmp, s_fcmp, s_ddiv, s_fdiv, s_f2d, s_dup_i, s_dup_r, s_dup2_l, s_dup2_ir, s_pop, s_iconst, s_bipush, s_sipush, s_lconst, s_fconst, s_dconst, s_ldc, s_ldc_w, s_ldc2_w, s_iload, s_iload_n0, s_iload_n1, s_iload_n2, s_iload_n3, s_lload, s_lload_n0, s_lload_n1, s_lload_n2, s_lload_n3, s_fload, s_fload_n0, s_fload_n1, s_fload_n2, s_fload_n3, s_dload, s_dload_n0, s_dload_n1, s_dload_n2, s_dload_n3, s_aload, s_aload_n0, s_aload_n1, s_aload_n2, s_aload_n3, s_istore, s_istore_n0, s_istore_n1, s_istore_n2, s_istore_n3, s_lstore, s_lstore_n0, s_lstore_n1, s_lstore_n2, s_lstore_n3, s_fstore, s_fstore_n0, s_fstore_n1, s_fstore_n2, s_fstore_n3, s_dstore, s_dstore_n0, s_dstore_n1, s_dstore_n2, s_dstore_n3, s_astore, s_astore_n0, s_astore_n1, s_astore_n2, s_astore_n3, s_astoreN_n, s_iinc, s_if_eq, s_if_lt, s_if_ge, s_if_gt, s_if_le, s_if_ne, s_ic_eq, s_ic_lt, s_ic_ge, s_ic_gt, s_ic_le, s_ic_ne, s_ifnn_r, s_ifnn_n, s_goto, s_nop, s_tab, s_getfield, s_putfield, s_anewarray, s_newarray, s_iaload, s_baload, s_caload, s_laload, s_daload, s_aaload, s_iastore, s_bastore, s_castore, s_lastore, s_dastore, s_aastore, s_arraylength, s_lreturn, s_freturn, s_dreturn, s_areturn, s_return, s_new, s_thr, ld_Z, ld_S, kl_Z, pd_0, pd_c, pd_n, ag_i, ag_r, ag_l, ag_n, st_Z, st_On, st_Oi, st_Or, st_Ol, st_S, s2_eq, mk_t, mk_f, mk_n, cl_v, cl_n, cl_if, vl_0, vl_1, vl_2, cv_i, cv_l, cv_d, cv_f, rf_s, qW_n, qW_i, qW_l, qW_r, qMem, x_get, x_putI, x_putL, x_ldL, x_ldI, x_ldA, x_stL, x_stI, x_isO, MK_1, MK_21, List.set_cons_zero, List.set_cons_succ, List.getElem?_cons_zero, List.getElem?_cons_succ, Option.map_some, List.tail_cons, i64_32, Nat.zero_add, Nat.reduceAdd, Nat.reduceLeDiff, Nat.le_refl, if_true, if_false, ite_true, ite_false, reduceIte, lnO, rfO, fn_0, f_0_0, f_0_1, f_0_2, f_0_3, f_0_4, f_0_5, f_0_6, f_0_7, f_0_8, f_0_9, f_0_10, f_0_11, f_0_12, f_0_13, f_0_14, fn_1, f_1_0, f_1_1, f_1_2, f_1_3, f_1_4, fn_2, f_2_0, f_2_1, f_2_2, f_2_3, f_2_4, f_2_5, fn_3, f_3_0, f_3_1, f_3_2, f_3_3, fn_4, f_4_0, f_4_1, f_4_2, f_4_3, f_4_4, f_4_5, fn_5, f_5_0, f_5_1, f_5_2, fn_6, f_6_0, f_6_1, f_6_2, fn_7, f_7_0, f_7_1, f_7_2, f_7_3, f_7_4, fn_8, f_8_0, f_8_1, f_8_2, f_8_3, f_8_4, f_8_5, f_8_6, f_8_7, fn_9, f_9_0, f_9_1, f_9_2, f_9_3, f_9_4, f_9_5, fn_10, f_10_0, f_10_1, f_10_2, f_10_3, f_10_4, f_10_5, f_10_6, f_10_7, f_10_8, f_10_9, f_10_10, f_10_11, f_10_12, f_10_13, f_10_14, f_10_15, f_10_16, f_10_17, f_10_18, f_10_19, f_10_20, f_10_21, f_10_22, f_10_23, Nat.reduceLT, cv_t, x_ld3, x_ld2, x_st3, x_st2, rm_g2, rm_g3, rm_g4, rm_g5, rm_g6, rm_g7, rm_s2, rm_s3, rm_s4, rm_s5, rm_s6, rm_s7, rm_t, c156, c161, gb, g1, h0, stc_eq, stc_stc, a1, a2, z0]
  rw [s0]
  generalize hRR : rdL T L (900 + 1) 0 (0, 0, ea, x4) (kClr D) = R at hP1 hP2 hP3 hP4
  obtain ⟨h0, h1⟩ := hM
  have s9 : stc (PQ ν M L bg2 i2 P2 E2) M (sv (PQ ν M L bg2 i2 P2 E2 M) 9 0) = PQ ν M 0 bg2 i2 P2 E2 := by
    have := pq_s9 (μ := ν) (M := M) (L := L) (bg := bg2) (st := i2) (P := P2) (E := E2) (q := 0)
    rwa [n0, z0] at this
  have g12 : PQ ν M 0 bg2 i2 P2 E2 M 12 = P2.2.1.toInt64 := pq_g12
  have g14 : PQ ν M 0 bg2 i2 P2 E2 M 14 = (nI i2).toInt64 := pq_g14
  have g13 : PQ ν M 0 bg2 i2 P2 E2 M 13 = P2.2.2.1.toInt64 := pq_g13
  have gM : PQ ν M 0 bg2 i2 P2 E2 M = mS (ν M) 0 bg2 i2 P2 := pq_M
  have m6 : mS (ν M) 0 bg2 i2 P2 6 = μ M 6 := by
    show ν M 6 = _
    rw [← hν, stc_eq, sv_get, if_neg (by decide)]
  have m7 : mS (ν M) 0 bg2 i2 P2 7 = 0 := by
    show ν M 7 = _
    rw [← hν, stc_eq, sv_get, if_pos rfl]
  have shape : ∀ d2, stc (PQ ν M 0 bg2 i2 P2 E2) M d2 = stc (stc (stc μ M d2) (M + 2) E2) (M + 1) D0 := fun d2 => by
    unfold PQ
    rw [← hν, stc_comm (a := M + 2) (b := M) (by omega), stc_stc, stc_stc, stc_comm (a := M + 1) (b := M) (by omega), stc_comm (a := M + 1) (b := M + 2) (by omega)]
  by_cases hz : P2.2.1 = 0
  · have hzR : R.1.2.1 = 0 := by rw [← hP1]; exact hz
    obtain ⟨a, e, f, i, b, p, hRP⟩ := hP4 hz
    simp only [if_pos hzR]
    have gc := t180 (G := G) (y := y) (μ := stc (PQ ν M 0 bg2 i2 P2 E2) M (sv (sv (mS (ν M) 0 bg2 i2 P2) 15 (P2.2.1).toInt64) 16 (-1))) (n := n) (s := s) (a := M + 2) (b := M + 1) h2 h1 (by omega) (i := 0) (j := 0) (by decide) (by decide) (by decide) (by decide)
    have e2 : stc (PQ ν M 0 bg2 i2 P2 E2) M (sv (sv (mS (ν M) 0 bg2 i2 P2) 15 (P2.2.1).toInt64) 16 (-1)) (M + 2) = E2 := by rw [stc_ne (by omega), pq_E]
    have e1 : stc (PQ ν M 0 bg2 i2 P2 E2) M (sv (sv (mS (ν M) 0 bg2 i2 P2) 15 (P2.2.1).toInt64) 16 (-1)) (M + 1) = D0 := by rw [stc_ne (by omega), pq_o (by omega) (by omega), v1]
    rw [e2, e1] at gc
    obtain ⟨D', hD'⟩ : ∃ D', mCp E2 0 D0 0 391 = D' := ⟨_, rfl⟩
    rw [hD'] at gc
    have hR391 : R391 D' E2 := fun k hk => by
      rw [← hD', mCp_get, if_pos (by omega)]
      congr 1
      omega
    refine ⟨sv (sv (sv (mS (ν M) 0 bg2 i2 P2) 15 (P2.2.1).toInt64) 16 (-1)) 6 0, E2, D', ?_, ?_, ?_, ⟨bg2, ?_⟩, ?_, ?_, ?_, ?_⟩
    · have zm1 : Int32.toInt64 (-1) = -1 := rfl
      have aM : ∀ d, stc (stc (PQ ν M 0 bg2 i2 P2 E2) M d) (M + 1) D' M = d := fun d => by rw [stc_ne (by omega), stc_eq]
      have aS : ∀ d d2, stc (stc (stc (PQ ν M 0 bg2 i2 P2 E2) M d) (M + 1) D') M d2 = stc (stc (stc μ M d2) (M + 2) E2) (M + 1) D' := fun d d2 => by
        rw [stc_comm (a := M + 1) (b := M) (by omega), stc_stc, shape, stc_stc]
      have g12b : mS (ν M) 0 bg2 i2 P2 12 = P2.2.1.toInt64 := rfl
      have d12 : ∀ u v, sv (sv (mS (ν M) 0 bg2 i2 P2) 15 u) 16 v 12 = P2.2.1.toInt64 := fun u v => by rw [sv_get, if_neg (by decide), sv_get, if_neg (by decide)]; rfl
      have gm : qR PG G (qEntry PG 181 [.ref M, .int 1] (MK y (stc (stc (stc μ M (sv (sv (sv (mS (ν M) 0 bg2 i2 P2) 15 (P2.2.1).toInt64) 16 (-1)) 6 0)) (M + 2) E2) (M + 1) D') n s)) = some (.inl (some (.int (D' 1).toInt32)), MK y (stc (stc (stc μ M (sv (sv (sv (mS (ν M) 0 bg2 i2 P2) 15 (P2.2.1).toInt64) 16 (-1)) 6 0)) (M + 2) E2) (M + 1) D') n s) := t181 hM' (k := 1) (by decide)
      have d15 : ∀ u, sv (mS (ν M) 0 bg2 i2 P2) 15 u 12 = P2.2.1.toInt64 := fun u => by rw [sv_get, if_neg (by decide)]; rfl
      have gc : qR PG G (qEntry PG 180 [.ref (M + 2), .int 0, .ref (M + 1), .int 0] (MK y (stc (PQ ν M 0 bg2 i2 P2 E2) M (sv (sv (mS (ν M) 0 bg2 i2 P2) 15 (P2.2.1).toInt64) 16 (-1))) n s)) = _ := gc
      simp -implicitDefEqProofs only [K160_2, K160_4, K160_5, j160_3, j160_4, j160_5, r160, s_iadd, s_isub, s_imul, s_ineg, s_iand, s_ior, s_ixor, s_ishl, s_ishr, s_iushr, s_i2l, s_l2i, s_i2b, s_i2c, s_ladd, s_lsub, s_lmul, s_lneg, s_land, s_lor, s_lshl, s_lshr, s_lushr, s_lcmp, s_l2d, s_l2f, s_i2d, s_i2f, s_idiv, s_ldiv, s_irem, s_lrem, s_dcmp, s_fcmp, s_ddiv, s_fdiv, s_f2d, s_dup_i, s_dup_r, s_dup2_l, s_dup2_ir, s_pop, s_iconst, s_bipush, s_sipush, s_lconst, s_fconst, s_dconst, s_ldc, s_ldc_w, s_ldc2_w, s_iload, s_iload_n0, s_iload_n1, s_iload_n2, s_iload_n3, s_lload, s_lload_n0, s_lload_n1, s_lload_n2, s_lload_n3, s_fload, s_fload_n0, s_fload_n1, s_fload_n2, s_fload_n3, s_dload, s_dload_n0, s_dload_n1, s_dload_n2, s_dload_n3, s_aload, s_aload_n0, s_aload_n1, s_aload_n2, s_aload_n3, s_istore, s_istore_n0, s_istore_n1, s_istore_n2, s_istore_n3, s_lstore, s_lstore_n0, s_lstore_n1, s_lstore_n2, s_lstore_n3, s_fstore, s_fstore_n0, s_fstore_n1, s_fstore_n2, s_fstore_n3, s_dstore, s_dstore_n0, s_dstore_n1, s_dstore_n2, s_dstore_n3, s_astore, s_astore_n0, s_astore_n1, s_astore_n2, s_astore_n3, s_astoreN_n, s_iinc, s_if_eq, s_if_lt, s_if_ge, s_if_gt, s_if_le, s_if_ne, s_ic_eq, s_ic_lt, s_ic_ge, s_ic_gt, s_ic_le, s_ic_ne, s_ifnn_r, s_ifnn_n, s_goto, s_nop, s_tab, s_getfield, s_putfield, s_anewarray, s_newarray, s_iaload, s_baload, s_caload, s_laload, s_daload, s_aaload, s_iastore, s_bastore, s_castore, s_lastore, s_dastore, s_aastore, s_arraylength, s_lreturn, s_freturn, s_dreturn, s_areturn, s_return, s_new, s_thr, ld_Z, ld_S, kl_Z, pd_0, pd_c, pd_n, ag_i, ag_r, ag_l, ag_n, st_Z, st_On, st_Oi, st_Or, st_Ol, st_S, s2_eq, mk_t, mk_f, mk_n, cl_v, cl_n, cl_if, vl_0, vl_1, vl_2, cv_i, cv_l, cv_d, cv_f, rf_s, qW_n, qW_i, qW_l, qW_r, qMem, x_get, x_putI, x_putL, x_ldL, x_ldI, x_ldA, x_stL, x_stI, x_isO, MK_1, MK_21, List.set_cons_zero, List.set_cons_succ, List.getElem?_cons_zero, List.getElem?_cons_succ, Option.map_some, List.tail_cons, i64_32, Nat.zero_add, Nat.reduceAdd, Nat.reduceLeDiff, Nat.le_refl, if_true, if_false, ite_true, ite_false, reduceIte, lnO, rfO, fn_0, f_0_0, f_0_1, f_0_2, f_0_3, f_0_4, f_0_5, f_0_6, f_0_7, f_0_8, f_0_9, f_0_10, f_0_11, f_0_12, f_0_13, f_0_14, fn_1, f_1_0, f_1_1, f_1_2, f_1_3, f_1_4, fn_2, f_2_0, f_2_1, f_2_2, f_2_3, f_2_4, f_2_5, fn_3, f_3_0, f_3_1, f_3_2, f_3_3, fn_4, f_4_0, f_4_1, f_4_2, f_4_3, f_4_4, f_4_5, fn_5, f_5_0, f_5_1, f_5_2, fn_6, f_6_0, f_6_1, f_6_2, fn_7, f_7_0, f_7_1, f_7_2, f_7_3, f_7_4, fn_8, f_8_0, f_8_1, f_8_2, f_8_3, f_8_4, f_8_5, f_8_6, f_8_7, fn_9, f_9_0, f_9_1, f_9_2, f_9_3, f_9_4, f_9_5, fn_10, f_10_0, f_10_1, f_10_2, f_10_3, f_10_4, f_10_5, f_10_6, f_10_7, f_10_8, f_10_9, f_10_10, f_10_11, f_10_12, f_10_13, f_10_14, f_10_15, f_10_16, f_10_17, f_10_18, f_10_19, f_10_20, f_10_21, f_10_22, f_10_23, Nat.reduceLT, cv_t, x_ld3, x_ld2, x_st3, x_st2, rm_g2, rm_g3, rm_g4, rm_g5, rm_g6, rm_g7, rm_s2, rm_s3, rm_s4, rm_s5, rm_s6, rm_s7, rm_t, c180, c181, gc, gm, h0, s9, g12, gM, g12b, d12, d15, stc_eq, stc_stc, aM, aS, if_pos hz, z0, zm1]
    · simp only [sv_get]; rw [if_neg (by decide), if_neg (by decide), if_neg (by decide)]; exact m7
    · simp only [sv_get]; rw [if_neg (by decide), if_neg (by decide), if_neg (by decide)]; rfl
    · simp only [sv_get]; rw [if_neg (by decide), if_neg (by decide), if_neg (by decide)]; rfl
    · simp only [sv_get]; rw [if_neg (by decide), if_neg (by decide), if_neg (by decide), ← hP2]; rfl
    · simp only [sv_get]; rw [if_neg (by decide), if_neg (by decide), if_pos trivial, ← hP1]
    · simp only [sv_get]; rw [if_neg (by decide), if_pos trivial]
    · exact ⟨by simp only [sv_get]; rw [if_pos trivial], a, e, f, i, b, p, hRP, hR391⟩
  · have hzR : ¬ R.1.2.1 = 0 := by rw [← hP1]; exact hz
    simp only [if_neg hzR]
    refine ⟨sv (sv (mS (ν M) 0 bg2 i2 P2) 15 (P2.2.1).toInt64) 16 (nI i2).toInt64, E2, D0, ?_, ?_, ?_, ⟨bg2, ?_⟩, ?_, ?_, ?_, ?_⟩
    · rw [← shape, ← hP2]
      have d12 : ∀ u, sv (mS (ν M) 0 bg2 i2 P2) 15 u 12 = P2.2.1.toInt64 := fun u => by rw [sv_get, if_neg (by decide)]; rfl
      have d14 : ∀ u, sv (mS (ν M) 0 bg2 i2 P2) 15 u 14 = (nI i2).toInt64 := fun u => by rw [sv_get, if_neg (by decide)]; rfl
      have e12 : ∀ u v, sv (sv (mS (ν M) 0 bg2 i2 P2) 15 u) 16 v 12 = P2.2.1.toInt64 := fun u v => by rw [sv_get, if_neg (by decide), sv_get, if_neg (by decide)]; rfl
      have e13 : ∀ u v, sv (sv (mS (ν M) 0 bg2 i2 P2) 15 u) 16 v 13 = P2.2.2.1.toInt64 := fun u v => by rw [sv_get, if_neg (by decide), sv_get, if_neg (by decide)]; rfl
      have m12 : mS (ν M) 0 bg2 i2 P2 12 = P2.2.1.toInt64 := rfl
      simp -implicitDefEqProofs only [K160_2, K160_3, K160_4, j160_3, j160_4, j160_5, r160, s_iadd, s_isub, s_imul, s_ineg, s_iand, s_ior, s_ixor, s_ishl, s_ishr, s_iushr, s_i2l, s_l2i, s_i2b, s_i2c, s_ladd, s_lsub, s_lmul, s_lneg, s_land, s_lor, s_lshl, s_lshr, s_lushr, s_lcmp, s_l2d, s_l2f, s_i2d, s_i2f, s_idiv, s_ldiv, s_irem, s_lrem, s_dcmp, s_fcmp, s_ddiv, s_fdiv, s_f2d, s_dup_i, s_dup_r, s_dup2_l, s_dup2_ir, s_pop, s_iconst, s_bipush, s_sipush, s_lconst, s_fconst, s_dconst, s_ldc, s_ldc_w, s_ldc2_w, s_iload, s_iload_n0, s_iload_n1, s_iload_n2, s_iload_n3, s_lload, s_lload_n0, s_lload_n1, s_lload_n2, s_lload_n3, s_fload, s_fload_n0, s_fload_n1, s_fload_n2, s_fload_n3, s_dload, s_dload_n0, s_dload_n1, s_dload_n2, s_dload_n3, s_aload, s_aload_n0, s_aload_n1, s_aload_n2, s_aload_n3, s_istore, s_istore_n0, s_istore_n1, s_istore_n2, s_istore_n3, s_lstore, s_lstore_n0, s_lstore_n1, s_lstore_n2, s_lstore_n3, s_fstore, s_fstore_n0, s_fstore_n1, s_fstore_n2, s_fstore_n3, s_dstore, s_dstore_n0, s_dstore_n1, s_dstore_n2, s_dstore_n3, s_astore, s_astore_n0, s_astore_n1, s_astore_n2, s_astore_n3, s_astoreN_n, s_iinc, s_if_eq, s_if_lt, s_if_ge, s_if_gt, s_if_le, s_if_ne, s_ic_eq, s_ic_lt, s_ic_ge, s_ic_gt, s_ic_le, s_ic_ne, s_ifnn_r, s_ifnn_n, s_goto, s_nop, s_tab, s_getfield, s_putfield, s_anewarray, s_newarray, s_iaload, s_baload, s_caload, s_laload, s_daload, s_aaload, s_iastore, s_bastore, s_castore, s_lastore, s_dastore, s_aastore, s_arraylength, s_lreturn, s_freturn, s_dreturn, s_areturn, s_return, s_new, s_thr, ld_Z, ld_S, kl_Z, pd_0, pd_c, pd_n, ag_i, ag_r, ag_l, ag_n, st_Z, st_On, st_Oi, st_Or, st_Ol, st_S, s2_eq, mk_t, mk_f, mk_n, cl_v, cl_n, cl_if, vl_0, vl_1, vl_2, cv_i, cv_l, cv_d, cv_f, rf_s, qW_n, qW_i, qW_l, qW_r, qMem, x_get, x_putI, x_putL, x_ldL, x_ldI, x_ldA, x_stL, x_stI, x_isO, MK_1, MK_21, List.set_cons_zero, List.set_cons_succ, List.getElem?_cons_zero, List.getElem?_cons_succ, Option.map_some, List.tail_cons, i64_32, Nat.zero_add, Nat.reduceAdd, Nat.reduceLeDiff, Nat.le_refl, if_true, if_false, ite_true, ite_false, reduceIte, lnO, rfO, fn_0, f_0_0, f_0_1, f_0_2, f_0_3, f_0_4, f_0_5, f_0_6, f_0_7, f_0_8, f_0_9, f_0_10, f_0_11, f_0_12, f_0_13, f_0_14, fn_1, f_1_0, f_1_1, f_1_2, f_1_3, f_1_4, fn_2, f_2_0, f_2_1, f_2_2, f_2_3, f_2_4, f_2_5, fn_3, f_3_0, f_3_1, f_3_2, f_3_3, fn_4, f_4_0, f_4_1, f_4_2, f_4_3, f_4_4, f_4_5, fn_5, f_5_0, f_5_1, f_5_2, fn_6, f_6_0, f_6_1, f_6_2, fn_7, f_7_0, f_7_1, f_7_2, f_7_3, f_7_4, fn_8, f_8_0, f_8_1, f_8_2, f_8_3, f_8_4, f_8_5, f_8_6, f_8_7, fn_9, f_9_0, f_9_1, f_9_2, f_9_3, f_9_4, f_9_5, fn_10, f_10_0, f_10_1, f_10_2, f_10_3, f_10_4, f_10_5, f_10_6, f_10_7, f_10_8, f_10_9, f_10_10, f_10_11, f_10_12, f_10_13, f_10_14, f_10_15, f_10_16, f_10_17, f_10_18, f_10_19, f_10_20, f_10_21, f_10_22, f_10_23, Nat.reduceLT, cv_t, x_ld3, x_ld2, x_st3, x_st2, rm_g2, rm_g3, rm_g4, rm_g5, rm_g6, rm_g7, rm_s2, rm_s3, rm_s4, rm_s5, rm_s6, rm_s7, rm_t, h0, s9, g12, gM, m12, d12, d14, e12, e13, stc_eq, stc_stc, if_neg hz, z0]
    · simp only [sv_get]; rw [if_neg (by decide), if_neg (by decide)]; exact m7
    · simp only [sv_get]; rw [if_neg (by decide), if_neg (by decide)]; rfl
    · simp only [sv_get]; rw [if_neg (by decide), if_neg (by decide)]; rfl
    · simp only [sv_get]; rw [if_neg (by decide), if_neg (by decide), ← hP2]; rfl
    · simp only [sv_get]; rw [if_neg (by decide), if_pos trivial, ← hP1]
    · simp only [sv_get]; rw [if_pos trivial, hP3 hz]
    · refine ⟨?_, rfl⟩
      simp only [sv_get]
      rw [if_neg (by decide), if_neg (by decide)]
      exact m6
end MPG
