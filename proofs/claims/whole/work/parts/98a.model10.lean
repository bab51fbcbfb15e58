/-! ===== The model, 10: answers with a check ===== -/
/-- a number in range, as the model says it -/
abbrev inM (x : Int32) (c : Int64) : Prop := 0 ≤ x.toInt64 ∧ x.toInt64 ≤ c - 1
section MDA
variable {G : qG} {y : Nat → Option qSh} {μ : qMu} {M n s c : Nat} {D : Row} {h : qHp} {t : Int64} {x z : Int32}
theorem inM_ix {l : Nat} (hc : c ≤ l) (hl : l ≤ 400) {v : Int64} (hv : v = (nI c).toInt64) (hx : inM x v) : 0 ≤ x ∧ x.toNatClampNeg < c := by
  subst hv
  have hx0 : 0 ≤ x := by
    have := Int64.le_iff_toInt_le.mp hx.1
    rw [Int32.le_iff_toInt_le]
    simpa using this
  refine ⟨hx0, ?_⟩
  have := Int64.le_iff_toInt_le.mp hx.2
  have key : ∀ c, c ≤ 400 → ((nI c).toInt64 - 1).toInt = (c : Int) - 1 := by decide +kernel
  rw [key c (by omega)] at this
  have e2 : x.toInt64.toInt = x.toInt := by simp
  rw [e2] at this
  show x.toInt.toNat < c
  have h3 : 0 ≤ x.toInt := by simpa using Int32.le_iff_toInt_le.mp hx0
  omega
theorem th_1 (hM : ML y M) {k : Int32} : qR PG G (qEntry PG 185 [.ref M, .int 1, .int k] (MK y (stc μ (M + 1) D) n s)) = some (.inl (some (.int 0)), MK y (MT μ M D 0) n s) := by
  have q := (t185 (G := G) (μ := stc μ (M + 1) D) (n := n) (s := s) hM (k := k)).1
  rw [mt_set] at q
  exact q
theorem th_0 (hM : ML y M) {k : Int32} : qR PG G (qEntry PG 185 [.ref M, .int 0, .int k] (MK y (stc μ (M + 1) D) n s)) = some (.inl (some (.int 1)), MK y (MT μ M D k.toInt64) n s) := by
  have q := (t185 (G := G) (μ := stc μ (M + 1) D) (n := n) (s := s) hM (k := k)).2
  rw [mt_set] at q
  exact q
theorem t188 (hM : ML y M) (hc : c ≤ 4) (hc2 : D 0 = (nI c).toInt64) : qR PG G (qEntry PG 188 [.ref M, .int x] (MK y (stc μ (M + 1) D) n s)) = if inM x (D 0) then some (.inl (some (.long (D (9 + x.toNatClampNeg)))), MK y (MT μ M D 0) n s) else some (.inl (some (.long 0)), MK y (MT μ M D 1) n s) := by
  have q1 : qR PG G (qEntry PG 189 [.ref M, .int x, .int 0] (MK y (stc μ (M + 1) D) n s)) = some (.inl (some (.int (if inM x (D 0) then 1 else 0))), MK y (stc μ (M + 1) D) n s) := t189 hM (k := 0) (by decide)
  have q2 := th_1 (G := G) (μ := μ) (D := D) (n := n) (s := s) hM (k := 1)
  have q3 := th_0 (G := G) (μ := μ) (D := D) (n := n) (s := s) hM (k := 1)
  rw [show Int32.toInt64 1 = 1 from rfl] at q3
  obtain ⟨h0, h1⟩ := hM
  have n1 : ((1 : Int32) = 0) = False := by decide
  by_cases hx : inM x (D 0)
  · rw [if_pos hx] at q1 ⊢
    obtain ⟨hx0, hxc⟩ := inM_ix (l := 4) hc (by decide) hc2 hx
    have hx1 := i32_of hx0
    generalize x.toNatClampNeg = k at hx1 hxc ⊢
    subst hx1
    have e9 : (9 : Int32) + nI k = nI (9 + k) := mI_add (i := 9)
    have i9 : ixok (nI (9 + k)) 391 := ixok_n (by omega) (by decide)
    have z9 : (nI (9 + k)).toNatClampNeg = 9 + k := nI_clamp (by omega)
    simp -implicitDefEqProofs only [e188, K188_0, j188_0, K188_1, j188_1, K188_2, j188_2, s_iadd, s_isub, s_imul, s_ineg, s_iand, s_ior, s_ixor, s_ishl, s_ishr, s_iushr, s_i2l, s_l2i, s_i2b, s_i2c, s_ladd, s_lsub, s_lmul, s_lneg, s_land, s_lor, s_lshl, s_lshr, s_lushr, s_lcmp, s_l2d, s_l2f, s_i2d, s_i2f, s_idiv, s_ldiv, s_irem, s_lrem, s_dcmp, s_fcmp, s_ddiv, s_fdiv, s_f2d, s_dup_i, s_dup_r, s_dup2_l, s_dup2_ir, s_pop, s_iconst, s_bipush, s_sipush, s_lconst, s_fconst, s_dconst, s_ldc, s_ldc_w, s_ldc2_w, s_iload, s_iload_n0, s_iload_n1, s_iload_n2, s_iload_n3, s_lload, s_lload_n0, s_lload_n1, s_lload_n2, s_lload_n3, s_fload, s_fload_n0, s_fload_n1, s_fload_n2, s_fload_n3, s_dload, s_dload_n0, s_dload_n1, s_dload_n2, s_dload_n3, s_aload, s_aload_n0, s_aload_n1, s_aload_n2, s_aload_n3, s_istore, s_istore_n0, s_istore_n1, s_istore_n2, s_istore_n3, s_lstore, s_lstore_n0, s_lstore_n1, s_lstore_n2, s_lstore_n3, s_fstore, s_fstore_n0, s_fstore_n1, s_fstore_n2, s_fstore_n3, s_dstore, s_dstore_n0, s_dstore_n1, s_dstore_n2, s_dstore_n3, s_astore, s_astore_n0, s_astore_n1, s_astore_n2, s_astore_n3, s_astoreN_n, s_iinc, s_if_eq, s_if_lt, s_if_ge, s_if_gt, s_if_le, s_if_ne, s_ic_eq, s_ic_lt, s_ic_ge, s_ic_gt, s_ic_le, s_ic_ne, s_ifnn_r, s_ifnn_n, s_goto, s_nop, s_tab, s_getfield, s_putfield, s_anewarray, s_newarray, s_iaload, s_baload, s_caload, s_laload, s_daload, s_aaload, s_iastore, s_bastore, s_castore, s_lastore, s_dastore, s_aastore, s_arraylength, s_lreturn, s_freturn, s_dreturn, s_areturn, s_return, s_new, s_thr, ld_Z, ld_S, kl_Z, pd_0, pd_c, pd_n, ag_i, ag_r, ag_l, ag_n, st_Z, st_On, st_Oi, st_Or, st_Ol, st_S, s2_eq, mk_t, mk_f, mk_n, cl_v, cl_n, cl_if, vl_0, vl_1, vl_2, cv_i, cv_l, cv_d, cv_f, rf_s, qW_n, qW_i, qW_l, qW_r, qMem, x_get, x_putI, x_putL, x_ldL, x_ldI, x_ldA, x_stL, x_stI, x_isO, MK_1, MK_21, List.set_cons_zero, List.set_cons_succ, List.getElem?_cons_zero, List.getElem?_cons_succ, Option.map_some, List.tail_cons, i64_32, Nat.zero_add, Nat.reduceAdd, Nat.reduceLeDiff, Nat.le_refl, if_true, if_false, ite_true, ite_false, reduceIte, lnO, rfO, fn_0, f_0_0, f_0_1, f_0_2, f_0_3, f_0_4, f_0_5, f_0_6, f_0_7, f_0_8, f_0_9, f_0_10, f_0_11, f_0_12, f_0_13, f_0_14, fn_1, f_1_0, f_1_1, f_1_2, f_1_3, f_1_4, fn_2, f_2_0, f_2_1, f_2_2, f_2_3, f_2_4, f_2_5, fn_3, f_3_0, f_3_1, f_3_2, f_3_3, fn_4, f_4_0, f_4_1, f_4_2, f_4_3, f_4_4, f_4_5, fn_5, f_5_0, f_5_1, f_5_2, fn_6, f_6_0, f_6_1, f_6_2, fn_7, f_7_0, f_7_1, f_7_2, f_7_3, f_7_4, fn_8, f_8_0, f_8_1, f_8_2, f_8_3, f_8_4, f_8_5, f_8_6, f_8_7, fn_9, f_9_0, f_9_1, f_9_2, f_9_3, f_9_4, f_9_5, fn_10, f_10_0, f_10_1, f_10_2, f_10_3, f_10_4, f_10_5, f_10_6, f_10_7, f_10_8, f_10_9, f_10_10, f_10_11, f_10_12, f_10_13, f_10_14, f_10_15, f_10_16, f_10_17, f_10_18, f_10_19, f_10_20, f_10_21, f_10_22, f_10_23, Nat.reduceLT, cv_t, x_ld3, x_ld2, x_st3, x_st2, rm_g2, rm_g3, rm_g4, rm_g5, rm_g6, rm_g7, rm_s2, rm_s3, rm_s4, rm_s5, rm_s6, rm_s7, rm_t, c189, c185, q1, q2, h0, h1, mt_1, e9, i9, z9]
  · rw [if_neg hx] at q1 ⊢
    simp -implicitDefEqProofs only [e188, K188_0, j188_0, K188_1, j188_1, K188_2, j188_2, s_iadd, s_isub, s_imul, s_ineg, s_iand, s_ior, s_ixor, s_ishl, s_ishr, s_iushr, s_i2l, s_l2i, s_i2b, s_i2c, s_ladd, s_lsub, s_lmul, s_lneg, s_land, s_lor, s_lshl, s_lshr, s_lushr, s_lcmp, s_l2d, s_l2f, s_i2d, s_i2f, s_idiv, s_ldiv, s_irem, s_lrem, s_dcmp, s_fcmp, s_ddiv, s_fdiv, s_f2d, s_dup_i, s_dup_r, s_dup2_l, s_dup2_ir, s_pop, s_iconst, s_bipush, s_sipush, s_lconst, s_fconst, s_dconst, s_ldc, s_ldc_w, s_ldc2_w, s_iload, s_iload_n0, s_iload_n1, s_iload_n2, s_iload_n3, s_lload, s_lload_n0, s_lload_n1, s_lload_n2, s_lload_n3, s_fload, s_fload_n0, s_fload_n1, s_fload_n2, s_fload_n3, s_dload, s_dload_n0, s_dload_n1, s_dload_n2, s_dload_n3, s_aload, s_aload_n0, s_aload_n1, s_aload_n2, s_aload_n3, s_istore, s_istore_n0, s_istore_n1, s_istore_n2, s_istore_n3, s_lstore, s_lstore_n0, s_lstore_n1, s_lstore_n2, s_lstore_n3, s_fstore, s_fstore_n0, s_fstore_n1, s_fstore_n2, s_fstore_n3, s_dstore, s_dstore_n0, s_dstore_n1, s_dstore_n2, s_dstore_n3, s_astore, s_astore_n0, s_astore_n1, s_astore_n2, s_astore_n3, s_astoreN_n, s_iinc, s_if_eq, s_if_lt, s_if_ge, s_if_gt, s_if_le, s_if_ne, s_ic_eq, s_ic_lt, s_ic_ge, s_ic_gt, s_ic_le, s_ic_ne, s_ifnn_r, s_ifnn_n, s_goto, s_nop, s_tab, s_getfield, s_putfield, s_anewarray, s_newarray, s_iaload, s_baload, s_caload, s_laload, s_daload, s_aaload, s_iastore, s_bastore, s_castore, s_lastore, s_dastore, s_aastore, s_arraylength, s_lreturn, s_freturn, s_dreturn, s_areturn, s_return, s_new, s_thr, ld_Z, ld_S, kl_Z, pd_0, pd_c, pd_n, ag_i, ag_r, ag_l, ag_n, st_Z, st_On, st_Oi, st_Or, st_Ol, st_S, s2_eq, mk_t, mk_f, mk_n, cl_v, cl_n, cl_if, vl_0, vl_1, vl_2, cv_i, cv_l, cv_d, cv_f, rf_s, qW_n, qW_i, qW_l, qW_r, qMem, x_get, x_putI, x_putL, x_ldL, x_ldI, x_ldA, x_stL, x_stI, x_isO, MK_1, MK_21, List.set_cons_zero, List.set_cons_succ, List.getElem?_cons_zero, List.getElem?_cons_succ, Option.map_some, List.tail_cons, i64_32, Nat.zero_add, Nat.reduceAdd, Nat.reduceLeDiff, Nat.le_refl, if_true, if_false, ite_true, ite_false, reduceIte, lnO, rfO, fn_0, f_0_0, f_0_1, f_0_2, f_0_3, f_0_4, f_0_5, f_0_6, f_0_7, f_0_8, f_0_9, f_0_10, f_0_11, f_0_12, f_0_13, f_0_14, fn_1, f_1_0, f_1_1, f_1_2, f_1_3, f_1_4, fn_2, f_2_0, f_2_1, f_2_2, f_2_3, f_2_4, f_2_5, fn_3, f_3_0, f_3_1, f_3_2, f_3_3, fn_4, f_4_0, f_4_1, f_4_2, f_4_3, f_4_4, f_4_5, fn_5, f_5_0, f_5_1, f_5_2, fn_6, f_6_0, f_6_1, f_6_2, fn_7, f_7_0, f_7_1, f_7_2, f_7_3, f_7_4, fn_8, f_8_0, f_8_1, f_8_2, f_8_3, f_8_4, f_8_5, f_8_6, f_8_7, fn_9, f_9_0, f_9_1, f_9_2, f_9_3, f_9_4, f_9_5, fn_10, f_10_0, f_10_1, f_10_2, f_10_3, f_10_4, f_10_5, f_10_6, f_10_7, f_10_8, f_10_9, f_10_10, f_10_11, f_10_12, f_10_13, f_10_14, f_10_15, f_10_16, f_10_17, f_10_18, f_10_19, f_10_20, f_10_21, f_10_22, f_10_23, Nat.reduceLT, cv_t, x_ld3, x_ld2, x_st3, x_st2, rm_g2, rm_g3, rm_g4, rm_g5, rm_g6, rm_g7, rm_s2, rm_s3, rm_s4, rm_s5, rm_s6, rm_s7, rm_t, c189, c185, q1, q3, h0, n1]
end MDA
