/-! ===== The model, 3: logs, incomes, bills ===== -/
def LgH (D : Row) (q : Nat) : Prop := (D 8 - D 8 / 40 * 40).toInt32 = nI q ∧ q < 40
def pLog (D : Row) (q : Nat) (k z : Int32) (a u : Int64) : Row := sv (sv (sv (sv (sv (sv D (191 + 5 * q) k.toInt64) (191 + 5 * q + 1) (D 6)) (191 + 5 * q + 2) z.toInt64) (191 + 5 * q + 3) a) (191 + 5 * q + 4) u) 8 (D 8 + 1)
theorem LgH.of {D E : Row} {q : Nat} (h : LgH D q) (he : E 8 = D 8) : LgH E q := by
  unfold LgH
  rw [he]
  exact h
theorem pCvL_o {e k : Nat} (hk : ∀ f, k ≠ 13 + 6 * f) : ∀ m D o, pCvL e m D o k = D k
  | 0, D, o => rfl
  | m + 1, D, o => by
    rw [pCvL]
    split
    · rfl
    · rw [pCvL_o hk m]
      unfold pCov
      exact pShf_o (hk _) (hk _)
theorem pCvE_o {D : Row} {e k : Nat} (hk : ∀ f, k ≠ 13 + 6 * f) (h7 : k ≠ 7) : pCvE D e k = D k := by
  unfold pCvE
  rw [show pCov (pCvL e 10 D (D (13 + 6 * e + 4)).toInt32) (13 + 6 * e) 7 k = pCvL e 10 D (D (13 + 6 * e + 4)).toInt32 k from pShf_o h7 (hk _), pCvL_o hk]
theorem pTak_o {D : Row} {e k : Nat} {v : Int64} (hk : ∀ f, k ≠ 13 + 6 * f) (h7 : k ≠ 7) (h5 : k ≠ 13 + 6 * e + 5) : pTak D e v k = D k := by
  unfold pTak
  rw [pCvE_o hk h7, sv_get, if_neg h5, sv_get, if_neg (hk _)]
theorem pSpe_o {D : Row} {e a k : Nat} {v : Int64} (hk : ∀ f, k ≠ 13 + 6 * f) (h7 : k ≠ 7) (h5 : k ≠ 13 + 6 * e + 5) (ha : k ≠ 9 + a) : pSpe D e a v k = D k := by
  unfold pSpe
  rw [pTak_o hk h7 h5, sv_get, if_neg ha]
section MD3
variable {G : qG} {y : Nat → Option qSh} {μ : qMu} {M n s c q : Nat} {D : Row} {h : qHp}
theorem t213 (hM : ML y M) (hL : LgH D q) {k z : Int32} {a u : Int64} : qR PG G (qEntry PG 213 [.ref M, .int k, .int z, .long a, .long u] (MK y (stc μ (M + 1) D) n s)) = some (.inl none, MK y (stc μ (M + 1) (pLog D q k z a u)) n s) := by
  obtain ⟨h0, h1⟩ := hM
  obtain ⟨l1, l2⟩ := hL
  have n40 : (40 : Int64) ≠ 0 := by decide
  have e0 : (191 : Int32) + 5 * nI q = nI (191 + 5 * q) := by
    show nI 191 + nI 5 * nI q = _
    rw [mI_mul, mI_add]
  have i0 : ixok (nI (191 + 5 * q)) 391 := ixok_n (by omega) (by decide)
  have i1 : ixok (nI (191 + 5 * q + 1)) 391 := ixok_n (by omega) (by decide)
  have i2 : ixok (nI (191 + 5 * q + 2)) 391 := ixok_n (by omega) (by decide)
  have i3 : ixok (nI (191 + 5 * q + 3)) 391 := ixok_n (by omega) (by decide)
  have i4 : ixok (nI (191 + 5 * q + 4)) 391 := ixok_n (by omega) (by decide)
  have z0 : (nI (191 + 5 * q)).toNatClampNeg = 191 + 5 * q := nI_clamp (by omega)
  have z1 : (nI (191 + 5 * q + 1)).toNatClampNeg = 191 + 5 * q + 1 := nI_clamp (by omega)
  have z2 : (nI (191 + 5 * q + 2)).toNatClampNeg = 191 + 5 * q + 2 := nI_clamp (by omega)
  have z3 : (nI (191 + 5 * q + 3)).toNatClampNeg = 191 + 5 * q + 3 := nI_clamp (by omega)
  have z4 : (nI (191 + 5 * q + 4)).toNatClampNeg = 191 + 5 * q + 4 := nI_clamp (by omega)
  have i8 : ixok 8 391 := by constructor <;> decide
  have z8 : (8 : Int32).toNatClampNeg = 8 := rfl
  have i6 : ixok 6 391 := by constructor <;> decide
  have z6 : (6 : Int32).toNatClampNeg = 6 := rfl
  have v6 : ∀ v, (sv D (191 + 5 * q) v) 6 = D 6 := fun v => by rw [sv_get, if_neg (by omega)]
  have v8 : ∀ v w u t r, sv (sv (sv (sv (sv D (191 + 5 * q) v) (191 + 5 * q + 1) w) (191 + 5 * q + 2) u) (191 + 5 * q + 3) t) (191 + 5 * q + 4) r 8 = D 8 := fun v w u t r => by
    rw [sv_get, if_neg (by omega), sv_get, if_neg (by omega), sv_get, if_neg (by omega), sv_get, if_neg (by omega), sv_get, if_neg (by omega)]
  unfold pLog
  simp -implicitDefEqProofs only [e213, K213_0, j213_0, s_iadd, s_isub, s_imul, s_ineg, s_iand, s_ior, s_ixor, s_ishl, s_ishr, s_iushr, s_i2l, s_l2i, s_i2b, s_i2c, s_ladd, s_lsub, s_lmul, s_lneg, s_land, s_lor, s_lshl, s_lshr, s_lushr, s_lcmp, s_l2d, s_l2f, s_i2d, s_i2f, s_idiv, s_ldiv, s_irem, s_lrem, s_dcmp, s_fcmp, s_ddiv, s_fdiv, s_f2d, s_dup_i, s_dup_r, s_dup2_l, s_dup2_ir, s_pop, s_iconst, s_bipush, s_sipush, s_lconst, s_fconst, s_dconst, s_ldc, s_ldc_w, s_ldc2_w, s_iload, s_iload_n0, s_iload_n1, s_iload_n2, s_iload_n3, s_lload, s_lload_n0, s_lload_n1, s_lload_n2, s_lload_n3, s_fload, s_fload_n0, s_fload_n1, s_fload_n2, s_fload_n3, s_dload, s_dload_n0, s_dload_n1, s_dload_n2, s_dload_n3, s_aload, s_aload_n0, s_aload_n1, s_aload_n2, s_aload_n3, s_istore, s_istore_n0, s_istore_n1, s_istore_n2, s_istore_n3, s_lstore, s_lstore_n0, s_lstore_n1, s_lstore_n2, s_lstore_n3, s_fstore, s_fstore_n0, s_fstore_n1, s_fstore_n2, s_fstore_n3, s_dstore, s_dstore_n0, s_dstore_n1, s_dstore_n2, s_dstore_n3, s_astore, s_astore_n0, s_astore_n1, s_astore_n2, s_astore_n3, s_astoreN_n, s_iinc, s_if_eq, s_if_lt, s_if_ge, s_if_gt, s_if_le, s_if_ne, s_ic_eq, s_ic_lt, s_ic_ge, s_ic_gt, s_ic_le, s_ic_ne, s_ifnn_r, s_ifnn_n, s_goto, s_nop, s_tab, s_getfield, s_putfield, s_anewarray, s_newarray, s_iaload, s_baload, s_caload, s_laload, s_daload, s_aaload, s_iastore, s_bastore, s_castore, s_lastore, s_dastore, s_aastore, s_arraylength, s_lreturn, s_freturn, s_dreturn, s_areturn, s_return, s_new, s_thr, ld_Z, ld_S, kl_Z, pd_0, pd_c, pd_n, ag_i, ag_r, ag_l, ag_n, st_Z, st_On, st_Oi, st_Or, st_Ol, st_S, s2_eq, mk_t, mk_f, mk_n, cl_v, cl_n, cl_if, vl_0, vl_1, vl_2, cv_i, cv_l, cv_d, cv_f, rf_s, qW_n, qW_i, qW_l, qW_r, qMem, x_get, x_putI, x_putL, x_ldL, x_ldI, x_ldA, x_stL, x_stI, x_isO, MK_1, MK_21, List.set_cons_zero, List.set_cons_succ, List.getElem?_cons_zero, List.getElem?_cons_succ, Option.map_some, List.tail_cons, i64_32, Nat.zero_add, Nat.reduceAdd, Nat.reduceLeDiff, Nat.le_refl, if_true, if_false, ite_true, ite_false, reduceIte, lnO, rfO, fn_0, f_0_0, f_0_1, f_0_2, f_0_3, f_0_4, f_0_5, f_0_6, f_0_7, f_0_8, f_0_9, f_0_10, f_0_11, f_0_12, f_0_13, f_0_14, fn_1, f_1_0, f_1_1, f_1_2, f_1_3, f_1_4, fn_2, f_2_0, f_2_1, f_2_2, f_2_3, f_2_4, f_2_5, fn_3, f_3_0, f_3_1, f_3_2, f_3_3, fn_4, f_4_0, f_4_1, f_4_2, f_4_3, f_4_4, f_4_5, fn_5, f_5_0, f_5_1, f_5_2, fn_6, f_6_0, f_6_1, f_6_2, fn_7, f_7_0, f_7_1, f_7_2, f_7_3, f_7_4, fn_8, f_8_0, f_8_1, f_8_2, f_8_3, f_8_4, f_8_5, f_8_6, f_8_7, fn_9, f_9_0, f_9_1, f_9_2, f_9_3, f_9_4, f_9_5, fn_10, f_10_0, f_10_1, f_10_2, f_10_3, f_10_4, f_10_5, f_10_6, f_10_7, f_10_8, f_10_9, f_10_10, f_10_11, f_10_12, f_10_13, f_10_14, f_10_15, f_10_16, f_10_17, f_10_18, f_10_19, f_10_20, f_10_21, f_10_22, f_10_23, Nat.reduceLT, cv_t, x_ld3, x_ld2, x_st3, x_st2, rm_g2, rm_g3, rm_g4, rm_g5, rm_g6, rm_g7, rm_s2, rm_s3, rm_s4, rm_s5, rm_s6, rm_s7, rm_t, h0, h1, stc_eq, stc_stc, s_lrem n40, l1, e0, nia1, nia2, nia3, nia4, i0, i1, i2, i3, i4, i6, i8, z0, z1, z2, z3, z4, z6, z8, v6, v8]
def pCom1 (D : Row) (i a : Nat) : Row := sv (sv D (9 + a) (D (9 + a) + D (109 + 4 * i + 1))) 7 ((sv D (9 + a) (D (9 + a) + D (109 + 4 * i + 1))) 7 + D (109 + 4 * i + 1))
def pCom2 (D : Row) (i : Nat) : Row := sv D (109 + 4 * i + 2) (if D (109 + 4 * i + 3) = 0 then -1 else D (109 + 4 * i + 2) + D (109 + 4 * i + 3))
theorem t212 (hM : ML y M) (hL : LgH D q) {i a : Nat} (hi : i < 4) (ha : a < 4) (ha2 : (D (109 + 4 * i)).toInt32 = nI a) : qR PG G (qEntry PG 212 [.ref M, .int (nI i)] (MK y (stc μ (M + 1) D) n s)) = some (.inl none, MK y (stc μ (M + 1) (pLog (pCom2 (pCom1 D i a) i) q 0 (nI i) (D (109 + 4 * i + 1)) 0)) n s) := by
  have hL2 : LgH (pCom2 (pCom1 D i a) i) q := hL.of (by
    unfold pCom2
    rw [sv_get, if_neg (by omega)]
    unfold pCom1
    rw [sv_get, if_neg (by omega), sv_get, if_neg (by omega)])
  have p1 := t213 (G := G) (μ := μ) (n := n) (s := s) hM hL2 (k := 0) (z := nI i) (a := D (109 + 4 * i + 1)) (u := 0)
  have q0 : ∀ {h}, qR PG G (qEntry PG 176 [.int (nI i), .int 0] h) = some (.inl (some (.int (nI (109 + 4 * i)))), h) := fun {h} => t176 (k := 0)
  have q1 : ∀ {h}, qR PG G (qEntry PG 176 [.int (nI i), .int 1] h) = some (.inl (some (.int (nI (109 + 4 * i + 1)))), h) := fun {h} => t176 (k := 1)
  have q2 : ∀ {h}, qR PG G (qEntry PG 176 [.int (nI i), .int 2] h) = some (.inl (some (.int (nI (109 + 4 * i + 2)))), h) := fun {h} => t176 (k := 2)
  have q3 : ∀ {h}, qR PG G (qEntry PG 176 [.int (nI i), .int 3] h) = some (.inl (some (.int (nI (109 + 4 * i + 3)))), h) := fun {h} => t176 (k := 3)
  obtain ⟨h0, h1⟩ := hM
  have i0 : ixok (nI (109 + 4 * i)) 391 := ixok_n (by omega) (by decide)
  have i1 : ixok (nI (109 + 4 * i + 1)) 391 := ixok_n (by omega) (by decide)
  have i2 : ixok (nI (109 + 4 * i + 2)) 391 := ixok_n (by omega) (by decide)
  have i3 : ixok (nI (109 + 4 * i + 3)) 391 := ixok_n (by omega) (by decide)
  have z0 : (nI (109 + 4 * i)).toNatClampNeg = 109 + 4 * i := nI_clamp (by omega)
  have z1 : (nI (109 + 4 * i + 1)).toNatClampNeg = 109 + 4 * i + 1 := nI_clamp (by omega)
  have z2 : (nI (109 + 4 * i + 2)).toNatClampNeg = 109 + 4 * i + 2 := nI_clamp (by omega)
  have z3 : (nI (109 + 4 * i + 3)).toNatClampNeg = 109 + 4 * i + 3 := nI_clamp (by omega)
  have e9 : (9 : Int32) + nI a = nI (9 + a) := mI_add (i := 9)
  have i9 : ixok (nI (9 + a)) 391 := ixok_n (by omega) (by decide)
  have z9 : (nI (9 + a)).toNatClampNeg = 9 + a := nI_clamp (by omega)
  have i7 : ixok 7 391 := by constructor <;> decide
  have z7 : (7 : Int32).toNatClampNeg = 7 := rfl
  have hc1 : ∀ v, sv (sv D (9 + a) (D (9 + a) + D (109 + 4 * i + 1))) 7 v = sv (sv D (9 + a) (D (9 + a) + D (109 + 4 * i + 1))) 7 v := fun _ => rfl
  have e1 : sv (sv D (9 + a) (D (9 + a) + D (109 + 4 * i + 1))) 7 ((sv D (9 + a) (D (9 + a) + D (109 + 4 * i + 1))) 7 + D (109 + 4 * i + 1)) = pCom1 D i a := rfl
  by_cases hq : pCom1 D i a (109 + 4 * i + 3) = 0
  · have e2 : sv (pCom1 D i a) (109 + 4 * i + 2) (-1) = pCom2 (pCom1 D i a) i := by unfold pCom2; rw [if_pos hq]
    simp -implicitDefEqProofs only [e212, K212_0, j212_0, K212_1, j212_1, K212_2, j212_2, s_iadd, s_isub, s_imul, s_ineg, s_iand, s_ior, s_ixor, s_ishl, s_ishr, s_iushr, s_i2l, s_l2i, s_i2b, s_i2c, s_ladd, s_lsub, s_lmul, s_lneg, s_land, s_lor, s_lshl, s_lshr, s_lushr, s_lcmp, s_l2d, s_l2f, s_i2d, s_i2f, s_idiv, s_ldiv, s_irem, s_lrem, s_dcmp, s_fcmp, s_ddiv, s_fdiv, s_f2d, s_dup_i, s_dup_r, s_dup2_l, s_dup2_ir, s_pop, s_iconst, s_bipush, s_sipush, s_lconst, s_fconst, s_dconst, s_ldc, s_ldc_w, s_ldc2_w, s_iload, s_iload_n0, s_iload_n1, s_iload_n2, s_iload_n3, s_lload, s_lload_n0, s_lload_n1, s_lload_n2, s_lload_n3, s_fload, s_fload_n0, s_fload_n1, s_fload_n2, s_fload_n3, s_dload, s_dload_n0, s_dload_n1, s_dload_n2, s_dload_n3, s_aload, s_aload_n0, s_aload_n1, s_aload_n2, s_aload_n3, s_istore, s_istore_n0, s_istore_n1, s_istore_n2, s_istore_n3, s_lstore, s_lstore_n0, s_lstore_n1, s_lstore_n2, s_lstore_n3, s_fstore, s_fstore_n0, s_fstore_n1, s_fstore_n2, s_fstore_n3, s_dstore, s_dstore_n0, s_dstore_n1, s_dstore_n2, s_dstore_n3, s_astore, s_astore_n0, s_astore_n1, s_astore_n2, s_astore_n3, s_astoreN_n, s_iinc, s_if_eq, s_if_lt, s_if_ge, s_if_gt, s_if_le, s_if_ne, s_ic_eq, s_ic_lt, s_ic_ge, s_ic_gt, s_ic_le, s_ic_ne, s_ifnn_r, s_ifnn_n, s_goto, s_nop, s_tab, s_getfield, s_putfield, s_anewarray, s_newarray, s_iaload, s_baload, s_caload, s_laload, s_daload, s_aaload, s_iastore, s_bastore, s_castore, s_lastore, s_dastore, s_aastore, s_arraylength, s_lreturn, s_freturn, s_dreturn, s_areturn, s_return, s_new, s_thr, ld_Z, ld_S, kl_Z, pd_0, pd_c, pd_n, ag_i, ag_r, ag_l, ag_n, st_Z, st_On, st_Oi, st_Or, st_Ol, st_S, s2_eq, mk_t, mk_f, mk_n, cl_v, cl_n, cl_if, vl_0, vl_1, vl_2, cv_i, cv_l, cv_d, cv_f, rf_s, qW_n, qW_i, qW_l, qW_r, qMem, x_get, x_putI, x_putL, x_ldL, x_ldI, x_ldA, x_stL, x_stI, x_isO, MK_1, MK_21, List.set_cons_zero, List.set_cons_succ, List.getElem?_cons_zero, List.getElem?_cons_succ, Option.map_some, List.tail_cons, i64_32, Nat.zero_add, Nat.reduceAdd, Nat.reduceLeDiff, Nat.le_refl, if_true, if_false, ite_true, ite_false, reduceIte, lnO, rfO, fn_0, f_0_0, f_0_1, f_0_2, f_0_3, f_0_4, f_0_5, f_0_6, f_0_7, f_0_8, f_0_9, f_0_10, f_0_11, f_0_12, f_0_13, f_0_14, fn_1, f_1_0, f_1_1, f_1_2, f_1_3, f_1_4, fn_2, f_2_0, f_2_1, f_2_2, f_2_3, f_2_4, f_2_5, fn_3, f_3_0, f_3_1, f_3_2, f_3_3, fn_4, f_4_0, f_4_1, f_4_2, f_4_3, f_4_4, f_4_5, fn_5, f_5_0, f_5_1, f_5_2, fn_6, f_6_0, f_6_1, f_6_2, fn_7, f_7_0, f_7_1, f_7_2, f_7_3, f_7_4, fn_8, f_8_0, f_8_1, f_8_2, f_8_3, f_8_4, f_8_5, f_8_6, f_8_7, fn_9, f_9_0, f_9_1, f_9_2, f_9_3, f_9_4, f_9_5, fn_10, f_10_0, f_10_1, f_10_2, f_10_3, f_10_4, f_10_5, f_10_6, f_10_7, f_10_8, f_10_9, f_10_10, f_10_11, f_10_12, f_10_13, f_10_14, f_10_15, f_10_16, f_10_17, f_10_18, f_10_19, f_10_20, f_10_21, f_10_22, f_10_23, Nat.reduceLT, cv_t, x_ld3, x_ld2, x_st3, x_st2, rm_g2, rm_g3, rm_g4, rm_g5, rm_g6, rm_g7, rm_s2, rm_s3, rm_s4, rm_s5, rm_s6, rm_s7, rm_t, c176, c213, q0, q1, q2, q3, p1, h0, h1, stc_eq, stc_stc, ha2, e9, i0, i1, i2, i3, i7, i9, z0, z1, z2, z3, z7, z9, e1, e2, lg_cmp_eq, hq]
  · have e2 : sv (pCom1 D i a) (109 + 4 * i + 2) (pCom1 D i a (109 + 4 * i + 2) + pCom1 D i a (109 + 4 * i + 3)) = pCom2 (pCom1 D i a) i := by unfold pCom2; rw [if_neg hq]
    simp -implicitDefEqProofs only [e212, K212_0, j212_0, K212_1, j212_1, K212_2, j212_2, s_iadd, s_isub, s_imul, s_ineg, s_iand, s_ior, s_ixor, s_ishl, s_ishr, s_iushr, s_i2l, s_l2i, s_i2b, s_i2c, s_ladd, s_lsub, s_lmul, s_lneg, s_land, s_lor, s_lshl, s_lshr, s_lushr, s_lcmp, s_l2d, s_l2f, s_i2d, s_i2f, s_idiv, s_ldiv, s_irem, s_lrem, s_dcmp, s_fcmp, s_ddiv, s_fdiv, s_f2d, s_dup_i, s_dup_r, s_dup2_l, s_dup2_ir, s_pop, s_iconst, s_bipush, s_sipush, s_lconst, s_fconst, s_dconst, s_ldc, s_ldc_w, s_ldc2_w, s_iload, s_iload_n0, s_iload_n1, s_iload_n2, s_iload_n3, s_lload, s_lload_n0, s_lload_n1, s_lload_n2, s_lload_n3, s_fload, s_fload_n0, s_fload_n1, s_fload_n2, s_fload_n3, s_dload, s_dload_n0, s_dload_n1, s_dload_n2, s_dload_n3, s_aload, s_aload_n0, s_aload_n1, s_aload_n2, s_aload_n3, s_istore, s_istore_n0, s_istore_n1, s_istore_n2, s_istore_n3, s_lstore, s_lstore_n0, s_lstore_n1, s_lstore_n2, s_lstore_n3, s_fstore, s_fstore_n0, s_fstore_n1, s_fstore_n2, s_fstore_n3, s_dstore, s_dstore_n0, s_dstore_n1, s_dstore_n2, s_dstore_n3, s_astore, s_astore_n0, s_astore_n1, s_astore_n2, s_astore_n3, s_astoreN_n, s_iinc, s_if_eq, s_if_lt, s_if_ge, s_if_gt, s_if_le, s_if_ne, s_ic_eq, s_ic_lt, s_ic_ge, s_ic_gt, s_ic_le, s_ic_ne, s_ifnn_r, s_ifnn_n, s_goto, s_nop, s_tab, s_getfield, s_putfield, s_anewarray, s_newarray, s_iaload, s_baload, s_caload, s_laload, s_daload, s_aaload, s_iastore, s_bastore, s_castore, s_lastore, s_dastore, s_aastore, s_arraylength, s_lreturn, s_freturn, s_dreturn, s_areturn, s_return, s_new, s_thr, ld_Z, ld_S, kl_Z, pd_0, pd_c, pd_n, ag_i, ag_r, ag_l, ag_n, st_Z, st_On, st_Oi, st_Or, st_Ol, st_S, s2_eq, mk_t, mk_f, mk_n, cl_v, cl_n, cl_if, vl_0, vl_1, vl_2, cv_i, cv_l, cv_d, cv_f, rf_s, qW_n, qW_i, qW_l, qW_r, qMem, x_get, x_putI, x_putL, x_ldL, x_ldI, x_ldA, x_stL, x_stI, x_isO, MK_1, MK_21, List.set_cons_zero, List.set_cons_succ, List.getElem?_cons_zero, List.getElem?_cons_succ, Option.map_some, List.tail_cons, i64_32, Nat.zero_add, Nat.reduceAdd, Nat.reduceLeDiff, Nat.le_refl, if_true, if_false, ite_true, ite_false, reduceIte, lnO, rfO, fn_0, f_0_0, f_0_1, f_0_2, f_0_3, f_0_4, f_0_5, f_0_6, f_0_7, f_0_8, f_0_9, f_0_10, f_0_11, f_0_12, f_0_13, f_0_14, fn_1, f_1_0, f_1_1, f_1_2, f_1_3, f_1_4, fn_2, f_2_0, f_2_1, f_2_2, f_2_3, f_2_4, f_2_5, fn_3, f_3_0, f_3_1, f_3_2, f_3_3, fn_4, f_4_0, f_4_1, f_4_2, f_4_3, f_4_4, f_4_5, fn_5, f_5_0, f_5_1, f_5_2, fn_6, f_6_0, f_6_1, f_6_2, fn_7, f_7_0, f_7_1, f_7_2, f_7_3, f_7_4, fn_8, f_8_0, f_8_1, f_8_2, f_8_3, f_8_4, f_8_5, f_8_6, f_8_7, fn_9, f_9_0, f_9_1, f_9_2, f_9_3, f_9_4, f_9_5, fn_10, f_10_0, f_10_1, f_10_2, f_10_3, f_10_4, f_10_5, f_10_6, f_10_7, f_10_8, f_10_9, f_10_10, f_10_11, f_10_12, f_10_13, f_10_14, f_10_15, f_10_16, f_10_17, f_10_18, f_10_19, f_10_20, f_10_21, f_10_22, f_10_23, Nat.reduceLT, cv_t, x_ld3, x_ld2, x_st3, x_st2, rm_g2, rm_g3, rm_g4, rm_g5, rm_g6, rm_g7, rm_s2, rm_s3, rm_s4, rm_s5, rm_s6, rm_s7, rm_t, c176, c213, q0, q1, q2, q3, p1, h0, h1, stc_eq, stc_stc, ha2, e9, i0, i1, i2, i3, i7, i9, z0, z1, z2, z3, z7, z9, e1, e2, lg_cmp_eq, if_neg hq]
end MD3
