/-! ===== The model, 5: funds are paid ===== -/
def pF1 (D : Row) (f a : Nat) : Row := sv D (9 + a) (D (9 + a) - D (73 + 6 * f + 1))
def pF2 (D : Row) (f : Nat) : Row := sv D (73 + 6 * f) (D (73 + 6 * f) - D (73 + 6 * f + 1))
def pF4 (D : Row) (f : Nat) : Row := sv D (73 + 6 * f + 5) (D (73 + 6 * f + 5) + 1)
def pF5 (D : Row) (q f : Nat) : Row := pLog D q 2 (nI f) (D (73 + 6 * f + 1)) (mx 0 (-(D (73 + 6 * f))))
def pF6 (D : Row) (f : Nat) : Row := if 0 < D (73 + 6 * f + 3) then sv D (73 + 6 * f + 2) (D (73 + 6 * f + 2) + D (73 + 6 * f + 3)) else pShf (sv D (73 + 6 * f + 2) (-1)) (73 + 6 * f) 7 ((sv D (73 + 6 * f + 2) (-1)) (73 + 6 * f))
def pFun (D : Row) (q f a : Nat) : Row := pF6 (pF5 (pF4 (pCov (pF2 (pF1 D f a) f) (73 + 6 * f) 7) f) q f) f
section MD5
variable {G : qG} {y : Nat → Option qSh} {μ : qMu} {M n s c q : Nat} {D : Row} {h : qHp}
theorem pF4_8 {f a : Nat} (hf : f < 6) (ha : a < 4) : pF4 (pCov (pF2 (pF1 D f a) f) (73 + 6 * f) 7) f 8 = D 8 := by
  unfold pF4
  rw [sv_get, if_neg (by omega)]
  unfold pCov
  rw [pShf_o (by omega) (by omega)]
  unfold pF2 pF1
  rw [sv_get, if_neg (by omega), sv_get, if_neg (by omega)]
theorem t224 (hM : ML y M) (hL : LgH D q) {f a : Nat} (hf : f < 6) (ha : a < 4) (ha2 : (D (73 + 6 * f + 4)).toInt32 = nI a) : qR PG G (qEntry PG 224 [.ref M, .int (nI f)] (MK y (stc μ (M + 1) D) n s)) = some (.inl none, MK y (stc μ (M + 1) (pFun D q f a)) n s) := by
  have hL2 : LgH (pF4 (pCov (pF2 (pF1 D f a) f) (73 + 6 * f) 7) f) q := hL.of (pF4_8 hf ha)
  have p1 := fun z a u => t213 (G := G) (μ := μ) (n := n) (s := s) hM hL2 (k := 2) (z := z) (a := a) (u := u)
  have p2 : qR PG G (qEntry PG 222 [.ref M, .int (nI (73 + 6 * f)), .int 7] (MK y (stc μ (M + 1) (pF2 (pF1 D f a) f)) n s)) = some (.inl none, MK y (stc μ (M + 1) (pCov (pF2 (pF1 D f a) f) (73 + 6 * f) 7)) n s) := t222 hM (by omega) (j := 7) (by decide)
  have p3 : ∀ (D' : Row) v, qR PG G (qEntry PG 215 [.ref M, .int (nI (73 + 6 * f)), .int 7, .long v] (MK y (stc μ (M + 1) D') n s)) = some (.inl none, MK y (stc μ (M + 1) (pShf D' (73 + 6 * f) 7 v)) n s) := fun D' v => t215 hM (by omega) (j := 7) (by decide)
  have g : ∀ (D' : Row) k, k < 6 → qR PG G (qEntry PG 198 [.ref M, .int (nI f), .int (nI k)] (MK y (stc μ (M + 1) D') n s)) = some (.inl (some (.long (D' (73 + 6 * f + k)))), MK y (stc μ (M + 1) D') n s) := fun D' k hk => t198 hM (by omega)
  have g0 : ∀ (D' : Row), qR PG G (qEntry PG 198 [.ref M, .int (nI f), .int 0] (MK y (stc μ (M + 1) D') n s)) = some (.inl (some (.long (D' (73 + 6 * f)))), MK y (stc μ (M + 1) D') n s) := fun D' => g D' 0 (by decide)
  have g1 : ∀ (D' : Row), qR PG G (qEntry PG 198 [.ref M, .int (nI f), .int 1] (MK y (stc μ (M + 1) D') n s)) = some (.inl (some (.long (D' (73 + 6 * f + 1)))), MK y (stc μ (M + 1) D') n s) := fun D' => g D' 1 (by decide)
  have g3 : ∀ (D' : Row), qR PG G (qEntry PG 198 [.ref M, .int (nI f), .int 3] (MK y (stc μ (M + 1) D') n s)) = some (.inl (some (.long (D' (73 + 6 * f + 3)))), MK y (stc μ (M + 1) D') n s) := fun D' => g D' 3 (by decide)
  have g4 : ∀ (D' : Row), qR PG G (qEntry PG 198 [.ref M, .int (nI f), .int 4] (MK y (stc μ (M + 1) D') n s)) = some (.inl (some (.long (D' (73 + 6 * f + 4)))), MK y (stc μ (M + 1) D') n s) := fun D' => g D' 4 (by decide)
  have q0 : ∀ {h}, qR PG G (qEntry PG 174 [.int (nI f), .int 0] h) = some (.inl (some (.int (nI (73 + 6 * f)))), h) := fun {h} => t174 (k := 0)
  have q2 : ∀ {h}, qR PG G (qEntry PG 174 [.int (nI f), .int 2] h) = some (.inl (some (.int (nI (73 + 6 * f + 2)))), h) := fun {h} => t174 (k := 2)
  have q5 : ∀ {h}, qR PG G (qEntry PG 174 [.int (nI f), .int 5] h) = some (.inl (some (.int (nI (73 + 6 * f + 5)))), h) := fun {h} => t174 (k := 5)
  obtain ⟨h0, h1⟩ := hM
  have i0 : ixok (nI (73 + 6 * f)) 391 := ixok_n (by omega) (by decide)
  have z0 : (nI (73 + 6 * f)).toNatClampNeg = 73 + 6 * f := nI_clamp (by omega)
  have i2 : ixok (nI (73 + 6 * f + 2)) 391 := ixok_n (by omega) (by decide)
  have z2 : (nI (73 + 6 * f + 2)).toNatClampNeg = 73 + 6 * f + 2 := nI_clamp (by omega)
  have i5 : ixok (nI (73 + 6 * f + 5)) 391 := ixok_n (by omega) (by decide)
  have z5 : (nI (73 + 6 * f + 5)).toNatClampNeg = 73 + 6 * f + 5 := nI_clamp (by omega)
  have e9 : (9 : Int32) + nI a = nI (9 + a) := mI_add (i := 9)
  have i9 : ixok (nI (9 + a)) 391 := ixok_n (by omega) (by decide)
  have z9 : (nI (9 + a)).toNatClampNeg = 9 + a := nI_clamp (by omega)
  have e1 : sv D (9 + a) (D (9 + a) - D (73 + 6 * f + 1)) = pF1 D f a := rfl
  have e2 : sv (pF1 D f a) (73 + 6 * f) (pF1 D f a (73 + 6 * f) - pF1 D f a (73 + 6 * f + 1)) = pF2 (pF1 D f a) f := rfl
  unfold pFun
  generalize hE : pF2 (pF1 D f a) f = E at p1 p2 hL2 e2 ⊢
  generalize hF : pCov E (73 + 6 * f) 7 = F at p1 p2 hL2 ⊢
  have e4 : sv F (73 + 6 * f + 5) (F (73 + 6 * f + 5) + 1) = pF4 F f := rfl
  generalize pF4 F f = H at p1 hL2 e4 ⊢
  have e5 : pLog H q 2 (nI f) (H (73 + 6 * f + 1)) (mx 0 (-(H (73 + 6 * f)))) = pF5 H q f := rfl
  generalize pF5 H q f = J at e5 ⊢
  unfold pF6
  by_cases hq : 0 < J (73 + 6 * f + 3)
  · have hq' : ¬ J (73 + 6 * f + 3) ≤ 0 := Int64.not_le.mpr hq
    rw [if_pos hq]
    simp -implicitDefEqProofs only [e224, K224_0, j224_0, K224_1, j224_1, s_iadd, s_isub, s_imul, s_ineg, s_iand, s_ior, s_ixor, s_ishl, s_ishr, s_iushr, s_i2l, s_l2i, s_i2b, s_i2c, s_ladd, s_lsub, s_lmul, s_lneg, s_land, s_lor, s_lshl, s_lshr, s_lushr, s_lcmp, s_l2d, s_l2f, s_i2d, s_i2f, s_idiv, s_ldiv, s_irem, s_lrem, s_dcmp, s_fcmp, s_ddiv, s_fdiv, s_f2d, s_dup_i, s_dup_r, s_dup2_l, s_dup2_ir, s_pop, s_iconst, s_bipush, s_sipush, s_lconst, s_fconst, s_dconst, s_ldc, s_ldc_w, s_ldc2_w, s_iload, s_iload_n0, s_iload_n1, s_iload_n2, s_iload_n3, s_lload, s_lload_n0, s_lload_n1, s_lload_n2, s_lload_n3, s_fload, s_fload_n0, s_fload_n1, s_fload_n2, s_fload_n3, s_dload, s_dload_n0, s_dload_n1, s_dload_n2, s_dload_n3, s_aload, s_aload_n0, s_aload_n1, s_aload_n2, s_aload_n3, s_istore, s_istore_n0, s_istore_n1, s_istore_n2, s_istore_n3, s_lstore, s_lstore_n0, s_lstore_n1, s_lstore_n2, s_lstore_n3, s_fstore, s_fstore_n0, s_fstore_n1, s_fstore_n2, s_fstore_n3, s_dstore, s_dstore_n0, s_dstore_n1, s_dstore_n2, s_dstore_n3, s_astore, s_astore_n0, s_astore_n1, s_astore_n2, s_astore_n3, s_astoreN_n, s_iinc, s_if_eq, s_if_lt, s_if_ge, s_if_gt, s_if_le, s_if_ne, s_ic_eq, s_ic_lt, s_ic_ge, s_ic_gt, s_ic_le, s_ic_ne, s_ifnn_r, s_ifnn_n, s_goto, s_nop, s_tab, s_getfield, s_putfield, s_anewarray, s_newarray, s_iaload, s_baload, s_caload, s_laload, s_daload, s_aaload, s_iastore, s_bastore, s_castore, s_lastore, s_dastore, s_aastore, s_arraylength, s_lreturn, s_freturn, s_dreturn, s_areturn, s_return, s_new, s_thr, ld_Z, ld_S, kl_Z, pd_0, pd_c, pd_n, ag_i, ag_r, ag_l, ag_n, st_Z, st_On, st_Oi, st_Or, st_Ol, st_S, s2_eq, mk_t, mk_f, mk_n, cl_v, cl_n, cl_if, vl_0, vl_1, vl_2, cv_i, cv_l, cv_d, cv_f, rf_s, qW_n, qW_i, qW_l, qW_r, qMem, x_get, x_putI, x_putL, x_ldL, x_ldI, x_ldA, x_stL, x_stI, x_isO, MK_1, MK_21, List.set_cons_zero, List.set_cons_succ, List.getElem?_cons_zero, List.getElem?_cons_succ, Option.map_some, List.tail_cons, i64_32, Nat.zero_add, Nat.reduceAdd, Nat.reduceLeDiff, Nat.le_refl, if_true, if_false, ite_true, ite_false, reduceIte, lnO, rfO, fn_0, f_0_0, f_0_1, f_0_2, f_0_3, f_0_4, f_0_5, f_0_6, f_0_7, f_0_8, f_0_9, f_0_10, f_0_11, f_0_12, f_0_13, f_0_14, fn_1, f_1_0, f_1_1, f_1_2, f_1_3, f_1_4, fn_2, f_2_0, f_2_1, f_2_2, f_2_3, f_2_4, f_2_5, fn_3, f_3_0, f_3_1, f_3_2, f_3_3, fn_4, f_4_0, f_4_1, f_4_2, f_4_3, f_4_4, f_4_5, fn_5, f_5_0, f_5_1, f_5_2, fn_6, f_6_0, f_6_1, f_6_2, fn_7, f_7_0, f_7_1, f_7_2, f_7_3, f_7_4, fn_8, f_8_0, f_8_1, f_8_2, f_8_3, f_8_4, f_8_5, f_8_6, f_8_7, fn_9, f_9_0, f_9_1, f_9_2, f_9_3, f_9_4, f_9_5, fn_10, f_10_0, f_10_1, f_10_2, f_10_3, f_10_4, f_10_5, f_10_6, f_10_7, f_10_8, f_10_9, f_10_10, f_10_11, f_10_12, f_10_13, f_10_14, f_10_15, f_10_16, f_10_17, f_10_18, f_10_19, f_10_20, f_10_21, f_10_22, f_10_23, Nat.reduceLT, cv_t, x_ld3, x_ld2, x_st3, x_st2, rm_g2, rm_g3, rm_g4, rm_g5, rm_g6, rm_g7, rm_s2, rm_s3, rm_s4, rm_s5, rm_s6, rm_s7, rm_t, c198, c174, c222, c213, c215, c2, t2, g0, g1, g3, g4, q0, q2, q5, p1, p2, p3, h0, h1, stc_eq, stc_stc, ha2, e9, i0, i2, i5, i9, z0, z2, z5, z9, e1, e2, e4, e5, lg_cmp_le, hq']
  · have hq' : J (73 + 6 * f + 3) ≤ 0 := Int64.not_lt.mp hq
    rw [if_neg hq]
    simp -implicitDefEqProofs only [e224, K224_0, j224_0, K224_1, j224_1, s_iadd, s_isub, s_imul, s_ineg, s_iand, s_ior, s_ixor, s_ishl, s_ishr, s_iushr, s_i2l, s_l2i, s_i2b, s_i2c, s_ladd, s_lsub, s_lmul, s_lneg, s_land, s_lor, s_lshl, s_lshr, s_lushr, s_lcmp, s_l2d, s_l2f, s_i2d, s_i2f, s_idiv, s_ldiv, s_irem, s_lrem, s_dcmp, s_fcmp, s_ddiv, s_fdiv, s_f2d, s_dup_i, s_dup_r, s_dup2_l, s_dup2_ir, s_pop, s_iconst, s_bipush, s_sipush, s_lconst, s_fconst, s_dconst, s_ldc, s_ldc_w, s_ldc2_w, s_iload, s_iload_n0, s_iload_n1, s_iload_n2, s_iload_n3, s_lload, s_lload_n0, s_lload_n1, s_lload_n2, s_lload_n3, s_fload, s_fload_n0, s_fload_n1, s_fload_n2, s_fload_n3, s_dload, s_dload_n0, s_dload_n1, s_dload_n2, s_dload_n3, s_aload, s_aload_n0, s_aload_n1, s_aload_n2, s_aload_n3, s_istore, s_istore_n0, s_istore_n1, s_istore_n2, s_istore_n3, s_lstore, s_lstore_n0, s_lstore_n1, s_lstore_n2, s_lstore_n3, s_fstore, s_fstore_n0, s_fstore_n1, s_fstore_n2, s_fstore_n3, s_dstore, s_dstore_n0, s_dstore_n1, s_dstore_n2, s_dstore_n3, s_astore, s_astore_n0, s_astore_n1, s_astore_n2, s_astore_n3, s_astoreN_n, s_iinc, s_if_eq, s_if_lt, s_if_ge, s_if_gt, s_if_le, s_if_ne, s_ic_eq, s_ic_lt, s_ic_ge, s_ic_gt, s_ic_le, s_ic_ne, s_ifnn_r, s_ifnn_n, s_goto, s_nop, s_tab, s_getfield, s_putfield, s_anewarray, s_newarray, s_iaload, s_baload, s_caload, s_laload, s_daload, s_aaload, s_iastore, s_bastore, s_castore, s_lastore, s_dastore, s_aastore, s_arraylength, s_lreturn, s_freturn, s_dreturn, s_areturn, s_return, s_new, s_thr, ld_Z, ld_S, kl_Z, pd_0, pd_c, pd_n, ag_i, ag_r, ag_l, ag_n, st_Z, st_On, st_Oi, st_Or, st_Ol, st_S, s2_eq, mk_t, mk_f, mk_n, cl_v, cl_n, cl_if, vl_0, vl_1, vl_2, cv_i, cv_l, cv_d, cv_f, rf_s, qW_n, qW_i, qW_l, qW_r, qMem, x_get, x_putI, x_putL, x_ldL, x_ldI, x_ldA, x_stL, x_stI, x_isO, MK_1, MK_21, List.set_cons_zero, List.set_cons_succ, List.getElem?_cons_zero, List.getElem?_cons_succ, Option.map_some, List.tail_cons, i64_32, Nat.zero_add, Nat.reduceAdd, Nat.reduceLeDiff, Nat.le_refl, if_true, if_false, ite_true, ite_false, reduceIte, lnO, rfO, fn_0, f_0_0, f_0_1, f_0_2, f_0_3, f_0_4, f_0_5, f_0_6, f_0_7, f_0_8, f_0_9, f_0_10, f_0_11, f_0_12, f_0_13, f_0_14, fn_1, f_1_0, f_1_1, f_1_2, f_1_3, f_1_4, fn_2, f_2_0, f_2_1, f_2_2, f_2_3, f_2_4, f_2_5, fn_3, f_3_0, f_3_1, f_3_2, f_3_3, fn_4, f_4_0, f_4_1, f_4_2, f_4_3, f_4_4, f_4_5, fn_5, f_5_0, f_5_1, f_5_2, fn_6, f_6_0, f_6_1, f_6_2, fn_7, f_7_0, f_7_1, f_7_2, f_7_3, f_7_4, fn_8, f_8_0, f_8_1, f_8_2, f_8_3, f_8_4, f_8_5, f_8_6, f_8_7, fn_9, f_9_0, f_9_1, f_9_2, f_9_3, f_9_4, f_9_5, fn_10, f_10_0, f_10_1, f_10_2, f_10_3, f_10_4, f_10_5, f_10_6, f_10_7, f_10_8, f_10_9, f_10_10, f_10_11, f_10_12, f_10_13, f_10_14, f_10_15, f_10_16, f_10_17, f_10_18, f_10_19, f_10_20, f_10_21, f_10_22, f_10_23, Nat.reduceLT, cv_t, x_ld3, x_ld2, x_st3, x_st2, rm_g2, rm_g3, rm_g4, rm_g5, rm_g6, rm_g7, rm_s2, rm_s3, rm_s4, rm_s5, rm_s6, rm_s7, rm_t, c198, c174, c222, c213, c215, c2, t2, g0, g1, g3, g4, q0, q2, q5, p1, p2, p3, h0, h1, stc_eq, stc_stc, ha2, e9, i0, i2, i5, i9, z0, z2, z5, z9, e1, e2, e4, e5, lg_cmp_le, hq']
end MD5
