/-! ===== The model's parser, 4: incomes, bills ===== -/
section MPD
variable {G : qG} {y : Nat → Option qSh} {μ : qMu} {M n s L bg st a e f i b p : Nat} {P Q : PS} {D E : Row} {T : QF}
theorem t175 (hM : ML y M) (hA : MA y M) (hT : HB (μ (M + 7)) T L) (hL : L ≤ 900) (hp : P.1 ≤ L) (hR : RP a e f i b p D E) (he : P.2.1 = 0) : ∃ bg' E', qR PG G (qEntry PG 175 [.ref M] (MK y (PQ μ M L bg st P E) n s)) = some (.inl none, MK y (PQ μ M L bg' st (icP3 T L (nI st) P D (nI bg)) E') n s) ∧ ((icP3 T L (nI st) P D (nI bg)).2.1 = 0 → ∃ a e f i b p, RP a e f i b p (icD T L (nI st) P D (nI bg)) E') := by
  have hM' := hM
  have ha4 := hR.1.2.1.1
  have he10 := hR.1.2.1.2.1
  have hf6 := hR.1.2.1.2.2.1
  have hi4 := hR.1.2.1.2.2.2.1
  have hb12 := hR.1.2.1.2.2.2.2.1
  have g8 : qR PG G (qEntry PG 168 [.ref M, .int 3, .int 4] (MK y (PQ μ M L bg st P E) n s)) = _ := t168 hM hA (k := 3) (m := 4) (by decide) hR.1.c3 (by omega) (by decide) he
  unfold icD icR0 icR1 icR2 icR3
  unfold icP3 icP2 icP1 icP0
  rw [hR.n3]
  rw [hR.n0]
  have e4 : nI 4 = 4 := rfl
  rw [e4] at g8
  have hle : (roP (nI st) P (nI i) 4 (nI bg)).1 ≤ L := by rw [roP_1]; exact hp
  have hlt : (roP (nI st) P (nI i) 4 (nI bg)).2.1 = 0 → i < 4 := fun q => by
    have := (roP_e q).1
    rwa [show (4 : Int32) = nI 4 from rfl, mI_lt (by omega) (by decide)] at this
  generalize roP (nI st) P (nI i) 4 (nI bg) = R at g8 hle hlt ⊢
  obtain ⟨h0, h1⟩ := hM
  have h2 := hA.1
  have n1 : ((1 : Int32) = 0) = False := by decide
  by_cases hz : R.2.1 = 0
  rotate_left
  · rw [if_neg hz] at g8
    have e1 : ∀ lo hi, nmP T L (nI st) R lo hi = R := fun lo hi => by unfold nmP; rw [if_neg hz]
    simp only [e1]
    refine ⟨bg, E, ?_, fun q => absurd q hz⟩
    simp -implicitDefEqProofs only [e175, K175_0, j175_0, K175_1, j175_1, s_iadd, s_isub, s_imul, s_ineg, s_iand, s_ior, s_ixor, s_ishl, s_ishr, s_iushr, s_i2l, s_l2i, s_i2b, s_i2c, s_ladd, s_lsub, s_lmul, s_lneg, s_land, s_lor, s_lshl, s_lshr, s_lushr, s_lcmp, s_l2d, s_l2f, s_i2d, s_i2f, s_idiv, s_ldiv, s_irem, s_lrem, s_dcmp, s_fcmp, s_ddiv, s_fdiv, s_f2d, s_dup_i, s_dup_r, s_dup2_l, s_dup2_ir, s_pop, s_iconst, s_bipush, s_sipush, s_lconst, s_fconst, s_dconst, s_ldc, s_ldc_w, s_ldc2_w, s_iload, s_iload_n0, s_iload_n1, s_iload_n2, s_iload_n3, s_lload, s_lload_n0, s_lload_n1, s_lload_n2, s_lload_n3, s_fload, s_fload_n0, s_fload_n1, s_fload_n2, s_fload_n3, s_dload, s_dload_n0, s_dload_n1, s_dload_n2, s_dload_n3, s_aload, s_aload_n0, s_aload_n1, s_aload_n2, s_aload_n3, s_istore, s_istore_n0, s_istore_n1, s_istore_n2, s_istore_n3, s_lstore, s_lstore_n0, s_lstore_n1, s_lstore_n2, s_lstore_n3, s_fstore, s_fstore_n0, s_fstore_n1, s_fstore_n2, s_fstore_n3, s_dstore, s_dstore_n0, s_dstore_n1, s_dstore_n2, s_dstore_n3, s_astore, s_astore_n0, s_astore_n1, s_astore_n2, s_astore_n3, s_astoreN_n, s_iinc, s_if_eq, s_if_lt, s_if_ge, s_if_gt, s_if_le, s_if_ne, s_ic_eq, s_ic_lt, s_ic_ge, s_ic_gt, s_ic_le, s_ic_ne, s_ifnn_r, s_ifnn_n, s_goto, s_nop, s_tab, s_getfield, s_putfield, s_anewarray, s_newarray, s_iaload, s_baload, s_caload, s_laload, s_daload, s_aaload, s_iastore, s_bastore, s_castore, s_lastore, s_dastore, s_aastore, s_arraylength, s_lreturn, s_freturn, s_dreturn, s_areturn, s_return, s_new, s_thr, ld_Z, ld_S, kl_Z, pd_0, pd_c, pd_n, ag_i, ag_r, ag_l, ag_n, st_Z, st_On, st_Oi, st_Or, st_Ol, st_S, s2_eq, mk_t, mk_f, mk_n, cl_v, cl_n, cl_if, vl_0, vl_1, vl_2, cv_i, cv_l, cv_d, cv_f, rf_s, qW_n, qW_i, qW_l, qW_r, qMem, x_get, x_putI, x_putL, x_ldL, x_ldI, x_ldA, x_stL, x_stI, x_isO, MK_1, MK_21, List.set_cons_zero, List.set_cons_succ, List.getElem?_cons_zero, List.getElem?_cons_succ, Option.map_some, List.tail_cons, i64_32, Nat.zero_add, Nat.reduceAdd, Nat.reduceLeDiff, Nat.le_refl, if_true, if_false, ite_true, ite_false, reduceIte, lnO, rfO, fn_0, f_0_0, f_0_1, f_0_2, f_0_3, f_0_4, f_0_5, f_0_6, f_0_7, f_0_8, f_0_9, f_0_10, f_0_11, f_0_12, f_0_13, f_0_14, fn_1, f_1_0, f_1_1, f_1_2, f_1_3, f_1_4, fn_2, f_2_0, f_2_1, f_2_2, f_2_3, f_2_4, f_2_5, fn_3, f_3_0, f_3_1, f_3_2, f_3_3, fn_4, f_4_0, f_4_1, f_4_2, f_4_3, f_4_4, f_4_5, fn_5, f_5_0, f_5_1, f_5_2, fn_6, f_6_0, f_6_1, f_6_2, fn_7, f_7_0, f_7_1, f_7_2, f_7_3, f_7_4, fn_8, f_8_0, f_8_1, f_8_2, f_8_3, f_8_4, f_8_5, f_8_6, f_8_7, fn_9, f_9_0, f_9_1, f_9_2, f_9_3, f_9_4, f_9_5, fn_10, f_10_0, f_10_1, f_10_2, f_10_3, f_10_4, f_10_5, f_10_6, f_10_7, f_10_8, f_10_9, f_10_10, f_10_11, f_10_12, f_10_13, f_10_14, f_10_15, f_10_16, f_10_17, f_10_18, f_10_19, f_10_20, f_10_21, f_10_22, f_10_23, Nat.reduceLT, cv_t, x_ld3, x_ld2, x_st3, x_st2, rm_g2, rm_g3, rm_g4, rm_g5, rm_g6, rm_g7, rm_s2, rm_s3, rm_s4, rm_s5, rm_s6, rm_s7, rm_t, c168, g8, h0, n1]
  rw [if_pos hz] at g8
  replace hlt := hlt hz
  have a1 := nI_m1 (k := a) (by omega)
  have e1 := nI_m1 (k := e) (by omega)
  have tx : ∀ {h}, qR PG G (qEntry PG 176 [.int (nI i), .int 0] h) = some (.inl (some (.int (nI (109 + 4 * i)))), h) := fun {h} => t176 (k := 0)
  obtain ⟨bg1, g1⟩ := t170 (G := G) (μ := μ) (bg := bg) (st := st) (E := E) (n := n) (s := s) hM' hA hT hL hle (lo := 0) (hi := (nI a - 1)) (by decide) (by first | decide | (rw [a1.2]; omega) | (rw [e1.2]; omega))
  rw [← a1.1] at g1
  have g1 : qR PG G (qEntry PG 170 [.ref M, .long 0, .long ((nI a).toInt64 - 1)] (MK y (PQ μ M L bg st R E) n s)) = _ := g1
  have hle1 : (nmP T L (nI st) R 0 (nI a - 1)).1 ≤ L := nmP_le hle
  have hz1 : (nmP T L (nI st) R 0 (nI a - 1)).2.1 = 0 → R.2.1 = 0 := nmP_e
  have hb1 := nmR_b (T := T) (L := L) (P := R) (lo := 0) (hi := (nI a - 1)) (sti := nI st)
  generalize hw1 : nmR T L R 0 (nI a - 1) = w1 at g1 hb1 ⊢
  generalize nmP T L (nI st) R 0 (nI a - 1) = P1 at g1 hle1 hz1 hb1 ⊢
  generalize hv1 : (if P1.2.1 = 0 then w1.toInt64 else (0 : Int32).toInt64) = v1 at g1
  obtain ⟨E1, hE1⟩ : ∃ E1, sv E (109 + 4 * i) v1 = E1 := ⟨_, rfl⟩
  have q01 : E1 0 = (nI a).toInt64 := by rw [← hE1, sv_get, if_neg (by omega)]; exact hR.1.c0
  have q11 : E1 1 = (nI e).toInt64 := by rw [← hE1, sv_get, if_neg (by omega)]; exact hR.1.c1
  have qk1 : E1 3 = (nI i).toInt64 := by rw [← hE1, sv_get, if_neg (by omega)]; exact hR.1.c3
  have i1 : ixok (nI (109 + 4 * i)) 391 := ixok_n (by omega) (by decide)
  have z1 : (nI (109 + 4 * i)).toNatClampNeg = 109 + 4 * i := nI_clamp (by omega)
  obtain ⟨bg2, g2⟩ := t170 (G := G) (μ := μ) (bg := bg1) (st := st) (E := E1) (n := n) (s := s) hM' hA hT hL hle1 (lo := 1) (hi := 1000000) (by decide) (by first | decide | (rw [a1.2]; omega) | (rw [e1.2]; omega))
  have g2 : qR PG G (qEntry PG 170 [.ref M, .long 1, .long (1000000)] (MK y (PQ μ M L bg1 st P1 E1) n s)) = _ := g2
  have hle2 : (nmP T L (nI st) P1 1 1000000).1 ≤ L := nmP_le hle1
  have hz2 : (nmP T L (nI st) P1 1 1000000).2.1 = 0 → P1.2.1 = 0 := nmP_e
  have hb2 := nmR_b (T := T) (L := L) (P := P1) (lo := 1) (hi := 1000000) (sti := nI st)
  generalize hw2 : nmR T L P1 1 1000000 = w2 at g2 hb2 ⊢
  generalize nmP T L (nI st) P1 1 1000000 = P2 at g2 hle2 hz2 hb2 ⊢
  generalize hv2 : (if P2.2.1 = 0 then w2.toInt64 else (1 : Int32).toInt64) = v2 at g2
  obtain ⟨E2, hE2⟩ : ∃ E2, sv E1 (109 + 4 * i + 1) v2 = E2 := ⟨_, rfl⟩
  have q02 : E2 0 = (nI a).toInt64 := by rw [← hE2, sv_get, if_neg (by omega)]; exact q01
  have q12 : E2 1 = (nI e).toInt64 := by rw [← hE2, sv_get, if_neg (by omega)]; exact q11
  have qk2 : E2 3 = (nI i).toInt64 := by rw [← hE2, sv_get, if_neg (by omega)]; exact qk1
  have i2 : ixok (nI (109 + 4 * i + 1)) 391 := ixok_n (by omega) (by decide)
  have z2 : (nI (109 + 4 * i + 1)).toNatClampNeg = 109 + 4 * i + 1 := nI_clamp (by omega)
  obtain ⟨bg3, g3⟩ := t170 (G := G) (μ := μ) (bg := bg2) (st := st) (E := E2) (n := n) (s := s) hM' hA hT hL hle2 (lo := 1) (hi := 20000) (by decide) (by first | decide | (rw [a1.2]; omega) | (rw [e1.2]; omega))
  have g3 : qR PG G (qEntry PG 170 [.ref M, .long 1, .long (20000)] (MK y (PQ μ M L bg2 st P2 E2) n s)) = _ := g3
  have hle3 : (nmP T L (nI st) P2 1 20000).1 ≤ L := nmP_le hle2
  have hz3 : (nmP T L (nI st) P2 1 20000).2.1 = 0 → P2.2.1 = 0 := nmP_e
  have hb3 := nmR_b (T := T) (L := L) (P := P2) (lo := 1) (hi := 20000) (sti := nI st)
  generalize hw3 : nmR T L P2 1 20000 = w3 at g3 hb3 ⊢
  generalize nmP T L (nI st) P2 1 20000 = P3 at g3 hle3 hz3 hb3 ⊢
  generalize hv3 : (if P3.2.1 = 0 then w3.toInt64 else (1 : Int32).toInt64) = v3 at g3
  obtain ⟨E3, hE3⟩ : ∃ E3, sv E2 (109 + 4 * i + 2) v3 = E3 := ⟨_, rfl⟩
  have q03 : E3 0 = (nI a).toInt64 := by rw [← hE3, sv_get, if_neg (by omega)]; exact q02
  have q13 : E3 1 = (nI e).toInt64 := by rw [← hE3, sv_get, if_neg (by omega)]; exact q12
  have qk3 : E3 3 = (nI i).toInt64 := by rw [← hE3, sv_get, if_neg (by omega)]; exact qk2
  have i3 : ixok (nI (109 + 4 * i + 2)) 391 := ixok_n (by omega) (by decide)
  have z3 : (nI (109 + 4 * i + 2)).toNatClampNeg = 109 + 4 * i + 2 := nI_clamp (by omega)
  obtain ⟨bg4, g4⟩ := t170 (G := G) (μ := μ) (bg := bg3) (st := st) (E := E3) (n := n) (s := s) hM' hA hT hL hle3 (lo := 0) (hi := 400) (by decide) (by first | decide | (rw [a1.2]; omega) | (rw [e1.2]; omega))
  have g4 : qR PG G (qEntry PG 170 [.ref M, .long 0, .long (400)] (MK y (PQ μ M L bg3 st P3 E3) n s)) = _ := g4
  have hle4 : (nmP T L (nI st) P3 0 400).1 ≤ L := nmP_le hle3
  have hz4 : (nmP T L (nI st) P3 0 400).2.1 = 0 → P3.2.1 = 0 := nmP_e
  have hb4 := nmR_b (T := T) (L := L) (P := P3) (lo := 0) (hi := 400) (sti := nI st)
  generalize hw4 : nmR T L P3 0 400 = w4 at g4 hb4 ⊢
  generalize nmP T L (nI st) P3 0 400 = P4 at g4 hle4 hz4 hb4 ⊢
  generalize hv4 : (if P4.2.1 = 0 then w4.toInt64 else (0 : Int32).toInt64) = v4 at g4
  obtain ⟨E4, hE4⟩ : ∃ E4, sv E3 (109 + 4 * i + 3) v4 = E4 := ⟨_, rfl⟩
  have q04 : E4 0 = (nI a).toInt64 := by rw [← hE4, sv_get, if_neg (by omega)]; exact q03
  have q14 : E4 1 = (nI e).toInt64 := by rw [← hE4, sv_get, if_neg (by omega)]; exact q13
  have qk4 : E4 3 = (nI i).toInt64 := by rw [← hE4, sv_get, if_neg (by omega)]; exact qk3
  have i4 : ixok (nI (109 + 4 * i + 3)) 391 := ixok_n (by omega) (by decide)
  have z4 : (nI (109 + 4 * i + 3)).toNatClampNeg = 109 + 4 * i + 3 := nI_clamp (by omega)
  have iK : ixok 3 391 := by constructor <;> decide
  have zK : (3 : Int32).toNatClampNeg = 3 := rfl
  have i00 : ixok 0 391 := by constructor <;> decide
  have z00 : (0 : Int32).toNatClampNeg = 0 := rfl
  have i01 : ixok 1 391 := by constructor <;> decide
  have z01 : (1 : Int32).toNatClampNeg = 1 := rfl
  have rK : (E 3).toInt32 = nI i := by rw [hR.1.c3, i64_32]
  have pK : (nI i).toInt64 + 1 = (nI (i + 1)).toInt64 := nI_p1 (by omega)
  have c00 := hR.1.c0
  have c01 := hR.1.c1
  refine ⟨bg4, sv E4 3 (nI (i + 1)).toInt64, ?_, fun q => ?_⟩
  · simp -implicitDefEqProofs only [e175, K175_0, j175_0, K175_1, j175_1, s_iadd, s_isub, s_imul, s_ineg, s_iand, s_ior, s_ixor, s_ishl, s_ishr, s_iushr, s_i2l, s_l2i, s_i2b, s_i2c, s_ladd, s_lsub, s_lmul, s_lneg, s_land, s_lor, s_lshl, s_lshr, s_lushr, s_lcmp, s_l2d, s_l2f, s_i2d, s_i2f, s_idiv, s_ldiv, s_irem, s_lrem, s_dcmp, s_fcmp, s_ddiv, s_fdiv, s_f2d, s_dup_i, s_dup_r, s_dup2_l, s_dup2_ir, s_pop, s_iconst, s_bipush, s_sipush, s_lconst, s_fconst, s_dconst, s_ldc, s_ldc_w, s_ldc2_w, s_iload, s_iload_n0, s_iload_n1, s_iload_n2, s_iload_n3, s_lload, s_lload_n0, s_lload_n1, s_lload_n2, s_lload_n3, s_fload, s_fload_n0, s_fload_n1, s_fload_n2, s_fload_n3, s_dload, s_dload_n0, s_dload_n1, s_dload_n2, s_dload_n3, s_aload, s_aload_n0, s_aload_n1, s_aload_n2, s_aload_n3, s_istore, s_istore_n0, s_istore_n1, s_istore_n2, s_istore_n3, s_lstore, s_lstore_n0, s_lstore_n1, s_lstore_n2, s_lstore_n3, s_fstore, s_fstore_n0, s_fstore_n1, s_fstore_n2, s_fstore_n3, s_dstore, s_dstore_n0, s_dstore_n1, s_dstore_n2, s_dstore_n3, s_astore, s_astore_n0, s_astore_n1, s_astore_n2, s_astore_n3, s_astoreN_n, s_iinc, s_if_eq, s_if_lt, s_if_ge, s_if_gt, s_if_le, s_if_ne, s_ic_eq, s_ic_lt, s_ic_ge, s_ic_gt, s_ic_le, s_ic_ne, s_ifnn_r, s_ifnn_n, s_goto, s_nop, s_tab, s_getfield, s_putfield, s_anewarray, s_newarray, s_iaload, s_baload, s_caload, s_laload, s_daload, s_aaload, s_iastore, s_bastore, s_castore, s_lastore, s_dastore, s_aastore, s_arraylength, s_lreturn, s_freturn, s_dreturn, s_areturn, s_return, s_new, s_thr, ld_Z, ld_S, kl_Z, pd_0, pd_c, pd_n, ag_i, ag_r, ag_l, ag_n, st_Z, st_On, st_Oi, st_Or, st_Ol, st_S, s2_eq, mk_t, mk_f, mk_n, cl_v, cl_n, cl_if, vl_0, vl_1, vl_2, cv_i, cv_l, cv_d, cv_f, rf_s, qW_n, qW_i, qW_l, qW_r, qMem, x_get, x_putI, x_putL, x_ldL, x_ldI, x_ldA, x_stL, x_stI, x_isO, MK_1, MK_21, List.set_cons_zero, List.set_cons_succ, List.getElem?_cons_zero, List.getElem?_cons_succ, Option.map_some, List.tail_cons, i64_32, Nat.zero_add, Nat.reduceAdd, Nat.reduceLeDiff, Nat.le_refl, if_true, if_false, ite_true, ite_false, reduceIte, lnO, rfO, fn_0, f_0_0, f_0_1, f_0_2, f_0_3, f_0_4, f_0_5, f_0_6, f_0_7, f_0_8, f_0_9, f_0_10, f_0_11, f_0_12, f_0_13, f_0_14, fn_1, f_1_0, f_1_1, f_1_2, f_1_3, f_1_4, fn_2, f_2_0, f_2_1, f_2_2, f_2_3, f_2_4, f_2_5, fn_3, f_3_0, f_3_1, f_3_2, f_3_3, fn_4, f_4_0, f_4_1, f_4_2, f_4_3, f_4_4, f_4_5, fn_5, f_5_0, f_5_1, f_5_2, fn_6, f_6_0, f_6_1, f_6_2, fn_7, f_7_0, f_7_1, f_7_2, f_7_3, f_7_4, fn_8, f_8_0, f_8_1, f_8_2, f_8_3, f_8_4, f_8_5, f_8_6, f_8_7, fn_9, f_9_0, f_9_1, f_9_2, f_9_3, f_9_4, f_9_5, fn_10, f_10_0, f_10_1, f_10_2, f_10_3, f_10_4, f_10_5, f_10_6, f_10_7, f_10_8, f_10_9, f_10_10, f_10_11, f_10_12, f_10_13, f_10_14, f_10_15, f_10_16, f_10_17, f_10_18, f_10_19, f_10_20, f_10_21, f_10_22, f_10_23, Nat.reduceLT, cv_t, x_ld3, x_ld2, x_st3, x_st2, rm_g2, rm_g3, rm_g4, rm_g5, rm_g6, rm_g7, rm_s2, rm_s3, rm_s4, rm_s5, rm_s6, rm_s7, rm_t, c168, c170, c176, g8, tx, g1, hE1, q01, q11, qk1, i1, z1, g2, hE2, q02, q12, qk2, i2, z2, g3, hE3, q03, q13, qk3, i3, z3, g4, hE4, q04, q14, qk4, i4, z4, h0, h2, n1, pq_E, pq_sE, nia0, nia1, nia2, nia3, nia4, iK, zK, i00, z00, i01, z01, rK, pK, c00, c01]
  · rw [if_pos q]
    have qz4 := q
    have qz3 := hz4 qz4
    have qz2 := hz3 qz3
    have qz1 := hz2 qz2
    rw [if_pos qz1] at hv1
    obtain ⟨l1, u1⟩ := hb1 qz1 (by decide) (by first | decide | (rw [a1.2]; omega) | (rw [e1.2]; omega))
    rw [a1.2] at u1
    have l1 : 0 ≤ w1.toInt := l1
    have vv1 : v1.toInt = w1.toInt := by rw [← hv1, Int32.toInt_toInt64]
    rw [if_pos qz2] at hv2
    obtain ⟨l2, u2⟩ := hb2 qz2 (by decide) (by first | decide | (rw [a1.2]; omega) | (rw [e1.2]; omega))
    have u2 : w2.toInt ≤ 1000000 := u2
    have l2 : 1 ≤ w2.toInt := l2
    have vv2 : v2.toInt = w2.toInt := by rw [← hv2, Int32.toInt_toInt64]
    rw [if_pos qz3] at hv3
    obtain ⟨l3, u3⟩ := hb3 qz3 (by decide) (by first | decide | (rw [a1.2]; omega) | (rw [e1.2]; omega))
    have u3 : w3.toInt ≤ 20000 := u3
    have l3 : 1 ≤ w3.toInt := l3
    have vv3 : v3.toInt = w3.toInt := by rw [← hv3, Int32.toInt_toInt64]
    rw [if_pos qz4] at hv4
    obtain ⟨l4, u4⟩ := hb4 qz4 (by decide) (by first | decide | (rw [a1.2]; omega) | (rw [e1.2]; omega))
    have u4 : w4.toInt ≤ 400 := u4
    have l4 : 0 ≤ w4.toInt := l4
    have vv4 : v4.toInt = w4.toInt := by rw [← hv4, Int32.toInt_toInt64]
    rw [show cn D 3 = i from cn_of hR.n3 (by omega)]
    have j0 := hR.1
    have j1 : J 1 a e f i b p E1 := by
      rw [← hE1]
      refine j0.put ?_
      show IB (jB _ _ _ _ _ _ _ (109 + 4 * i + 0)) _
      rw [jB_I hlt (by decide)]
      simp only [Nat.reduceEqDiff, Nat.zero_ne_one, if_false, if_true, if_neg (Nat.lt_irrefl i)]
      constructor <;> dsimp only <;> rw [vv1] <;> omega
    have j2 : J 1 a e f i b p E2 := by
      rw [← hE2]
      refine j1.put ?_
      show IB (jB _ _ _ _ _ _ _ (109 + 4 * i + 1)) _
      rw [jB_I hlt (by decide)]
      simp only [Nat.reduceEqDiff, Nat.zero_ne_one, if_false, if_true, if_neg (Nat.lt_irrefl i)]
      constructor <;> dsimp only <;> rw [vv2] <;> omega
    have j3 : J 1 a e f i b p E3 := by
      rw [← hE3]
      refine j2.put ?_
      show IB (jB _ _ _ _ _ _ _ (109 + 4 * i + 2)) _
      rw [jB_I hlt (by decide)]
      simp only [Nat.reduceEqDiff, Nat.zero_ne_one, if_false, if_true, if_neg (Nat.lt_irrefl i)]
      constructor <;> dsimp only <;> rw [vv3] <;> omega
    have j4 : J 1 a e f i b p E4 := by
      rw [← hE4]
      refine j3.put ?_
      show IB (jB _ _ _ _ _ _ _ (109 + 4 * i + 3)) _
      rw [jB_I hlt (by decide)]
      simp only [Nat.reduceEqDiff, Nat.zero_ne_one, if_false, if_true, if_neg (Nat.lt_irrefl i)]
      constructor <;> dsimp only <;> rw [vv4] <;> omega
    have f0 : E4 (109 + 4 * i) = v1 := by rw [← hE4, sv_get, if_neg (by omega), ← hE3, sv_get, if_neg (by omega), ← hE2, sv_get, if_neg (by omega), ← hE1, sv_get, if_pos rfl]
    have f1 : E4 (109 + 4 * i + 1) = v2 := by rw [← hE4, sv_get, if_neg (by omega), ← hE3, sv_get, if_neg (by omega), ← hE2, sv_get, if_pos rfl]
    have f2 : E4 (109 + 4 * i + 2) = v3 := by rw [← hE4, sv_get, if_neg (by omega), ← hE3, sv_get, if_pos rfl]
    have f3 : E4 (109 + 4 * i + 3) = v4 := by rw [← hE4, sv_get, if_pos rfl]
    have fo : ∀ k, (∀ r, r < 4 → k ≠ 109 + 4 * i + r) → E4 k = E k := fun k hk => by
      rw [← hE4, sv_get, if_neg (by have := hk 3 (by decide); omega), ← hE3, sv_get, if_neg (by have := hk 2 (by decide); omega), ← hE2, sv_get, if_neg (by have := hk 1 (by decide); omega), ← hE1, sv_get, if_neg (by have := hk 0 (by decide); omega)]
    refine ⟨a, e, f, i + 1, b, p, ?_, ?_, ?_, ?_, ?_, ?_⟩
    · refine J.upI j4 hlt ?_ ?_
      · rw [f0, vv1]; omega
      · rw [f1, vv2]; omega
    · intro k hk
      unfold kDI kDI0
      by_cases hK : k = 3
      · rw [hK, sv_get, if_pos rfl, sv_get, if_pos rfl]
      rw [sv_get, if_neg hK, sv_get (d := E4), if_neg hK]
      by_cases hn : ∃ r, r < 4 ∧ k = 109 + 4 * i + r
      · obtain ⟨r, hr, rfl⟩ := hn
        have hr' : r = 0 ∨ r = 1 ∨ r = 2 ∨ r = 3 := by omega
        rcases hr' with rfl | rfl | rfl | rfl
        · simp only [sv_get, if_true]
          repeat (first | rw [if_pos (by omega)] | rw [if_neg (by omega)])
          show _ = E4 (109 + 4 * i)
          rw [f0, ← hv1]
        · simp only [sv_get, if_true]
          repeat (first | rw [if_pos (by omega)] | rw [if_neg (by omega)])
          rw [f1, ← hv2]
        · simp only [sv_get, if_true]
          repeat (first | rw [if_pos (by omega)] | rw [if_neg (by omega)])
          rw [f2, ← hv3]
        · simp only [sv_get, if_true]
          repeat (first | rw [if_pos (by omega)] | rw [if_neg (by omega)])
          rw [f3, ← hv4]
      · rw [fo k (fun r hr hq => hn ⟨r, hr, hq⟩)]
        simp only [sv_get]
        rw [if_neg (show ¬ k = 109 + 4 * i + 3 from fun q => hn ⟨3, by decide, q⟩)]
        rw [if_neg (show ¬ k = 109 + 4 * i + 2 from fun q => hn ⟨2, by decide, q⟩)]
        rw [if_neg (show ¬ k = 109 + 4 * i + 1 from fun q => hn ⟨1, by decide, q⟩)]
        rw [if_neg (show ¬ k = 109 + 4 * i from fun q => hn ⟨0, by decide, q⟩)]
        rw [if_neg (show ¬ k = 400 + i from fun q => by unfold Live at hk; omega)]
        refine hR.2.1 k ?_
        have hk2 : ∀ r, r < 4 → k ≠ 109 + 4 * i + r := fun r hr hq => hn ⟨r, hr, hq⟩
        have k0 := hk2 0 (by decide)
        have k1 := hk2 1 (by decide)
        have k2 := hk2 2 (by decide)
        have k3 := hk2 3 (by decide)
        unfold Live at hk ⊢
        omega
    · refine ⟨fun q h1 h2 => ?_, fun q h1 h2 => ?_, fun q h1 => ?_⟩
      · rw [sv_get, if_neg (by omega), sv_get, if_neg (by omega), fo _ (fun r hr => by omega), fo _ (fun r hr => by omega)]
        exact hR.2.2.1.1 q (by omega) h2
      · rw [sv_get, if_neg (by omega), sv_get, if_neg (by omega), fo _ (fun r hr => by omega), fo _ (fun r hr => by omega)]
        exact hR.2.2.1.2.1 q (by omega) h2
      · rw [sv_get, if_neg (by omega), fo _ (fun r hr => by omega)]
        exact hR.2.2.1.2.2 q h1
    · rw [sv_get, if_neg (by decide), fo _ (fun r hr => by omega)]
      exact hR.2.2.2.1
    · unfold kDI kDI0
      simp only [sv_get]
      repeat rw [if_neg (by omega)]
      exact hR.2.2.2.2.1
    · unfold kDI kDI0
      simp only [sv_get]
      repeat rw [if_neg (by omega)]
      exact hR.2.2.2.2.2
theorem t177 (hM : ML y M) (hA : MA y M) (hT : HB (μ (M + 7)) T L) (hL : L ≤ 900) (hp : P.1 ≤ L) (hR : RP a e f i b p D E) (he : P.2.1 = 0) : ∃ bg' E', qR PG G (qEntry PG 177 [.ref M] (MK y (PQ μ M L bg st P E) n s)) = some (.inl none, MK y (PQ μ M L bg' st (biP4 T L (nI st) P D (nI bg)) E') n s) ∧ ((biP4 T L (nI st) P D (nI bg)).2.1 = 0 → ∃ a e f i b p, RP a e f i b p (biD T L (nI st) P D (nI bg)) E') := by
  have hM' := hM
  have ha4 := hR.1.2.1.1
  have he10 := hR.1.2.1.2.1
  have hf6 := hR.1.2.1.2.2.1
  have hi4 := hR.1.2.1.2.2.2.1
  have hb12 := hR.1.2.1.2.2.2.2.1
  have g8 : qR PG G (qEntry PG 168 [.ref M, .int 4, .int 12] (MK y (PQ μ M L bg st P E) n s)) = _ := t168 hM hA (k := 4) (m := 12) (by decide) hR.1.c4 (by omega) (by decide) he
  unfold biD biR0 biR1 biR2 biR3 biR4
  unfold biP4 biP3 biP2 biP1 biP0
  rw [hR.n4]
  rw [hR.n0]
  rw [hR.n1]
  have e4 : nI 12 = 12 := rfl
  rw [e4] at g8
  have hle : (roP (nI st) P (nI b) 12 (nI bg)).1 ≤ L := by rw [roP_1]; exact hp
  have hlt : (roP (nI st) P (nI b) 12 (nI bg)).2.1 = 0 → b < 12 := fun q => by
    have := (roP_e q).1
    rwa [show (12 : Int32) = nI 12 from rfl, mI_lt (by omega) (by decide)] at this
  generalize roP (nI st) P (nI b) 12 (nI bg) = R at g8 hle hlt ⊢
  obtain ⟨h0, h1⟩ := hM
  have h2 := hA.1
  have n1 : ((1 : Int32) = 0) = False := by decide
  by_cases hz : R.2.1 = 0
  rotate_left
  · rw [if_neg hz] at g8
    have e1 : ∀ lo hi, nmP T L (nI st) R lo hi = R := fun lo hi => by unfold nmP; rw [if_neg hz]
    simp only [e1]
    refine ⟨bg, E, ?_, fun q => absurd q hz⟩
    simp -implicitDefEqProofs only [e177, K177_0, j177_0, K177_1, j177_1, s_iadd, s_isub, s_imul, s_ineg, s_iand, s_ior, s_ixor, s_ishl, s_ishr, s_iushr, s_i2l, s_l2i, s_i2b, s_i2c, s_ladd, s_lsub, s_lmul, s_lneg, s_land, s_lor, s_lshl, s_lshr, s_lushr, s_lcmp, s_l2d, s_l2f, s_i2d, s_i2f, s_idiv, s_ldiv, s_irem, s_lrem, s_dcmp, s_fcmp, s_ddiv, s_fdiv, s_f2d, s_dup_i, s_dup_r, s_dup2_l, s_dup2_ir, s_pop, s_iconst, s_bipush, s_sipush, s_lconst, s_fconst, s_dconst, s_ldc, s_ldc_w, s_ldc2_w, s_iload, s_iload_n0, s_iload_n1, s_iload_n2, s_iload_n3, s_lload, s_lload_n0, s_lload_n1, s_lload_n2, s_lload_n3, s_fload, s_fload_n0, s_fload_n1, s_fload_n2, s_fload_n3, s_dload, s_dload_n0, s_dload_n1, s_dload_n2, s_dload_n3, s_aload, s_aload_n0, s_aload_n1, s_aload_n2, s_aload_n3, s_istore, s_istore_n0, s_istore_n1, s_istore_n2, s_istore_n3, s_lstore, s_lstore_n0, s_lstore_n1, s_lstore_n2, s_lstore_n3, s_fstore, s_fstore_n0, s_fstore_n1, s_fstore_n2, s_fstore_n3, s_dstore, s_dstore_n0, s_dstore_n1, s_dstore_n2, s_dstore_n3, s_astore, s_astore_n0, s_astore_n1, s_astore_n2, s_astore_n3, s_astoreN_n, s_iinc, s_if_eq, s_if_lt, s_if_ge, s_if_gt, s_if_le, s_if_ne, s_ic_eq, s_ic_lt, s_ic_ge, s_ic_gt, s_ic_le, s_ic_ne, s_ifnn_r, s_ifnn_n, s_goto, s_nop, s_tab, s_getfield, s_putfield, s_anewarray, s_newarray, s_iaload, s_baload, s_caload, s_laload, s_daload, s_aaload, s_iastore, s_bastore, s_castore, s_lastore, s_dastore, s_aastore, s_arraylength, s_lreturn, s_freturn, s_dreturn, s_areturn, s_return, s_new, s_thr, ld_Z, ld_S, kl_Z, pd_0, pd_c, pd_n, ag_i, ag_r, ag_l, ag_n, st_Z, st_On, st_Oi, st_Or, st_Ol, st_S, s2_eq, mk_t, mk_f, mk_n, cl_v, cl_n, cl_if, vl_0, vl_1, vl_2, cv_i, cv_l, cv_d, cv_f, rf_s, qW_n, qW_i, qW_l, qW_r, qMem, x_get, x_putI, x_putL, x_ldL, x_ldI, x_ldA, x_stL, x_stI, x_isO, MK_1, MK_21, List.set_cons_zero, List.set_cons_succ, List.getElem?_cons_zero, List.getElem?_cons_succ, Option.map_some, List.tail_cons, i64_32, Nat.zero_add, Nat.reduceAdd, Nat.reduceLeDiff, Nat.le_refl, if_true, if_false, ite_true, ite_false, reduceIte, lnO, rfO, fn_0, f_0_0, f_0_1, f_0_2, f_0_3, f_0_4, f_0_5, f_0_6, f_0_7, f_0_8, f_0_9, f_0_10, f_0_11, f_0_12, f_0_13, f_0_14, fn_1, f_1_0, f_1_1, f_1_2, f_1_3, f_1_4, fn_2, f_2_0, f_2_1, f_2_2, f_2_3, f_2_4, f_2_5, fn_3, f_3_0, f_3_1, f_3_2, f_3_3, fn_4, f_4_0, f_4_1, f_4_2, f_4_3, f_4_4, f_4_5, fn_5, f_5_0, f_5_1, f_5_2, fn_6, f_6_0, f_6_1, f_6_2, fn_7, f_7_0, f_7_1, f_7_2, f_7_3, f_7_4, fn_8, f_8_0, f_8_1, f_8_2, f_8_3, f_8_4, f_8_5, f_8_6, f_8_7, fn_9, f_9_0, f_9_1, f_9_2, f_9_3, f_9_4, f_9_5, fn_10, f_10_0, f_10_1, f_10_2, f_10_3, f_10_4, f_10_5, f_10_6, f_10_7, f_10_8, f_10_9, f_10_10, f_10_11, f_10_12, f_10_13, f_10_14, f_10_15, f_10_16, f_10_17, f_10_18, f_10_19, f_10_20, f_10_21, f_10_22, f_10_23, Nat.reduceLT, cv_t, x_ld3, x_ld2, x_st3, x_st2, rm_g2, rm_g3, rm_g4, rm_g5, rm_g6, rm_g7, rm_s2, rm_s3, rm_s4, rm_s5, rm_s6, rm_s7, rm_t, c168, g8, h0, n1]
  rw [if_pos hz] at g8
  replace hlt := hlt hz
  have a1 := nI_m1 (k := a) (by omega)
  have e1 := nI_m1 (k := e) (by omega)
  have tx : ∀ {h}, qR PG G (qEntry PG 178 [.int (nI b), .int 0] h) = some (.inl (some (.int (nI (125 + 5 * b)))), h) := fun {h} => t178 (k := 0)
  obtain ⟨bg1, g1⟩ := t170 (G := G) (μ := μ) (bg := bg) (st := st) (E := E) (n := n) (s := s) hM' hA hT hL hle (lo := 0) (hi := (nI e - 1)) (by decide) (by first | decide | (rw [a1.2]; omega) | (rw [e1.2]; omega))
  rw [← e1.1] at g1
  have g1 : qR PG G (qEntry PG 170 [.ref M, .long 0, .long ((nI e).toInt64 - 1)] (MK y (PQ μ M L bg st R E) n s)) = _ := g1
  have hle1 : (nmP T L (nI st) R 0 (nI e - 1)).1 ≤ L := nmP_le hle
  have hz1 : (nmP T L (nI st) R 0 (nI e - 1)).2.1 = 0 → R.2.1 = 0 := nmP_e
  have hb1 := nmR_b (T := T) (L := L) (P := R) (lo := 0) (hi := (nI e - 1)) (sti := nI st)
  generalize hw1 : nmR T L R 0 (nI e - 1) = w1 at g1 hb1 ⊢
  generalize nmP T L (nI st) R 0 (nI e - 1) = P1 at g1 hle1 hz1 hb1 ⊢
  generalize hv1 : (if P1.2.1 = 0 then w1.toInt64 else (0 : Int32).toInt64) = v1 at g1
  obtain ⟨E1, hE1⟩ : ∃ E1, sv E (125 + 5 * b) v1 = E1 := ⟨_, rfl⟩
  have q01 : E1 0 = (nI a).toInt64 := by rw [← hE1, sv_get, if_neg (by omega)]; exact hR.1.c0
  have q11 : E1 1 = (nI e).toInt64 := by rw [← hE1, sv_get, if_neg (by omega)]; exact hR.1.c1
  have qk1 : E1 4 = (nI b).toInt64 := by rw [← hE1, sv_get, if_neg (by omega)]; exact hR.1.c4
  have i1 : ixok (nI (125 + 5 * b)) 391 := ixok_n (by omega) (by decide)
  have z1 : (nI (125 + 5 * b)).toNatClampNeg = 125 + 5 * b := nI_clamp (by omega)
  obtain ⟨bg2, g2⟩ := t170 (G := G) (μ := μ) (bg := bg1) (st := st) (E := E1) (n := n) (s := s) hM' hA hT hL hle1 (lo := 0) (hi := (nI a - 1)) (by decide) (by first | decide | (rw [a1.2]; omega) | (rw [e1.2]; omega))
  rw [← a1.1] at g2
  have g2 : qR PG G (qEntry PG 170 [.ref M, .long 0, .long ((nI a).toInt64 - 1)] (MK y (PQ μ M L bg1 st P1 E1) n s)) = _ := g2
  have hle2 : (nmP T L (nI st) P1 0 (nI a - 1)).1 ≤ L := nmP_le hle1
  have hz2 : (nmP T L (nI st) P1 0 (nI a - 1)).2.1 = 0 → P1.2.1 = 0 := nmP_e
  have hb2 := nmR_b (T := T) (L := L) (P := P1) (lo := 0) (hi := (nI a - 1)) (sti := nI st)
  generalize hw2 : nmR T L P1 0 (nI a - 1) = w2 at g2 hb2 ⊢
  generalize nmP T L (nI st) P1 0 (nI a - 1) = P2 at g2 hle2 hz2 hb2 ⊢
  generalize hv2 : (if P2.2.1 = 0 then w2.toInt64 else (0 : Int32).toInt64) = v2 at g2
  obtain ⟨E2, hE2⟩ : ∃ E2, sv E1 (125 + 5 * b + 1) v2 = E2 := ⟨_, rfl⟩
  have q02 : E2 0 = (nI a).toInt64 := by rw [← hE2, sv_get, if_neg (by omega)]; exact q01
  have q12 : E2 1 = (nI e).toInt64 := by rw [← hE2, sv_get, if_neg (by omega)]; exact q11
  have qk2 : E2 4 = (nI b).toInt64 := by rw [← hE2, sv_get, if_neg (by omega)]; exact qk1
  have i2 : ixok (nI (125 + 5 * b + 1)) 391 := ixok_n (by omega) (by decide)
  have z2 : (nI (125 + 5 * b + 1)).toNatClampNeg = 125 + 5 * b + 1 := nI_clamp (by omega)
  obtain ⟨bg3, g3⟩ := t170 (G := G) (μ := μ) (bg := bg2) (st := st) (E := E2) (n := n) (s := s) hM' hA hT hL hle2 (lo := 1) (hi := 1000000) (by decide) (by first | decide | (rw [a1.2]; omega) | (rw [e1.2]; omega))
  have g3 : qR PG G (qEntry PG 170 [.ref M, .long 1, .long (1000000)] (MK y (PQ μ M L bg2 st P2 E2) n s)) = _ := g3
  have hle3 : (nmP T L (nI st) P2 1 1000000).1 ≤ L := nmP_le hle2
  have hz3 : (nmP T L (nI st) P2 1 1000000).2.1 = 0 → P2.2.1 = 0 := nmP_e
  have hb3 := nmR_b (T := T) (L := L) (P := P2) (lo := 1) (hi := 1000000) (sti := nI st)
  generalize hw3 : nmR T L P2 1 1000000 = w3 at g3 hb3 ⊢
  generalize nmP T L (nI st) P2 1 1000000 = P3 at g3 hle3 hz3 hb3 ⊢
  generalize hv3 : (if P3.2.1 = 0 then w3.toInt64 else (1 : Int32).toInt64) = v3 at g3
  obtain ⟨E3, hE3⟩ : ∃ E3, sv E2 (125 + 5 * b + 2) v3 = E3 := ⟨_, rfl⟩
  have q03 : E3 0 = (nI a).toInt64 := by rw [← hE3, sv_get, if_neg (by omega)]; exact q02
  have q13 : E3 1 = (nI e).toInt64 := by rw [← hE3, sv_get, if_neg (by omega)]; exact q12
  have qk3 : E3 4 = (nI b).toInt64 := by rw [← hE3, sv_get, if_neg (by omega)]; exact qk2
  have i3 : ixok (nI (125 + 5 * b + 2)) 391 := ixok_n (by omega) (by decide)
  have z3 : (nI (125 + 5 * b + 2)).toNatClampNeg = 125 + 5 * b + 2 := nI_clamp (by omega)
  obtain ⟨bg4, g4⟩ := t170 (G := G) (μ := μ) (bg := bg3) (st := st) (E := E3) (n := n) (s := s) hM' hA hT hL hle3 (lo := 1) (hi := 20000) (by decide) (by first | decide | (rw [a1.2]; omega) | (rw [e1.2]; omega))
  have g4 : qR PG G (qEntry PG 170 [.ref M, .long 1, .long (20000)] (MK y (PQ μ M L bg3 st P3 E3) n s)) = _ := g4
  have hle4 : (nmP T L (nI st) P3 1 20000).1 ≤ L := nmP_le hle3
  have hz4 : (nmP T L (nI st) P3 1 20000).2.1 = 0 → P3.2.1 = 0 := nmP_e
  have hb4 := nmR_b (T := T) (L := L) (P := P3) (lo := 1) (hi := 20000) (sti := nI st)
  generalize hw4 : nmR T L P3 1 20000 = w4 at g4 hb4 ⊢
  generalize nmP T L (nI st) P3 1 20000 = P4 at g4 hle4 hz4 hb4 ⊢
  generalize hv4 : (if P4.2.1 = 0 then w4.toInt64 else (1 : Int32).toInt64) = v4 at g4
  obtain ⟨E4, hE4⟩ : ∃ E4, sv E3 (125 + 5 * b + 3) v4 = E4 := ⟨_, rfl⟩
  have q04 : E4 0 = (nI a).toInt64 := by rw [← hE4, sv_get, if_neg (by omega)]; exact q03
  have q14 : E4 1 = (nI e).toInt64 := by rw [← hE4, sv_get, if_neg (by omega)]; exact q13
  have qk4 : E4 4 = (nI b).toInt64 := by rw [← hE4, sv_get, if_neg (by omega)]; exact qk3
  have i4 : ixok (nI (125 + 5 * b + 3)) 391 := ixok_n (by omega) (by decide)
  have z4 : (nI (125 + 5 * b + 3)).toNatClampNeg = 125 + 5 * b + 3 := nI_clamp (by omega)
  obtain ⟨bg5, g5⟩ := t170 (G := G) (μ := μ) (bg := bg4) (st := st) (E := E4) (n := n) (s := s) hM' hA hT hL hle4 (lo := 0) (hi := 400) (by decide) (by first | decide | (rw [a1.2]; omega) | (rw [e1.2]; omega))
  have g5 : qR PG G (qEntry PG 170 [.ref M, .long 0, .long (400)] (MK y (PQ μ M L bg4 st P4 E4) n s)) = _ := g5
  have hle5 : (nmP T L (nI st) P4 0 400).1 ≤ L := nmP_le hle4
  have hz5 : (nmP T L (nI st) P4 0 400).2.1 = 0 → P4.2.1 = 0 := nmP_e
  have hb5 := nmR_b (T := T) (L := L) (P := P4) (lo := 0) (hi := 400) (sti := nI st)
  generalize hw5 : nmR T L P4 0 400 = w5 at g5 hb5 ⊢
  generalize nmP T L (nI st) P4 0 400 = P5 at g5 hle5 hz5 hb5 ⊢
  generalize hv5 : (if P5.2.1 = 0 then w5.toInt64 else (0 : Int32).toInt64) = v5 at g5
  obtain ⟨E5, hE5⟩ : ∃ E5, sv E4 (125 + 5 * b + 4) v5 = E5 := ⟨_, rfl⟩
  have q05 : E5 0 = (nI a).toInt64 := by rw [← hE5, sv_get, if_neg (by omega)]; exact q04
  have q15 : E5 1 = (nI e).toInt64 := by rw [← hE5, sv_get, if_neg (by omega)]; exact q14
  have qk5 : E5 4 = (nI b).toInt64 := by rw [← hE5, sv_get, if_neg (by omega)]; exact qk4
  have i5 : ixok (nI (125 + 5 * b + 4)) 391 := ixok_n (by omega) (by decide)
  have z5 : (nI (125 + 5 * b + 4)).toNatClampNeg = 125 + 5 * b + 4 := nI_clamp (by omega)
  have iK : ixok 4 391 := by constructor <;> decide
  have zK : (4 : Int32).toNatClampNeg = 4 := rfl
  have i00 : ixok 0 391 := by constructor <;> decide
  have z00 : (0 : Int32).toNatClampNeg = 0 := rfl
  have i01 : ixok 1 391 := by constructor <;> decide
  have z01 : (1 : Int32).toNatClampNeg = 1 := rfl
  have rK : (E 4).toInt32 = nI b := by rw [hR.1.c4, i64_32]
  have pK : (nI b).toInt64 + 1 = (nI (b + 1)).toInt64 := nI_p1 (by omega)
  have c00 := hR.1.c0
  have c01 := hR.1.c1
  refine ⟨bg5, sv E5 4 (nI (b + 1)).toInt64, ?_, fun q => ?_⟩
  · simp -implicitDefEqProofs only [e177, K177_0, j177_0, K177_1, j177_1, s_iadd, s_isub, s_imul, s_ineg, s_iand, s_ior, s_ixor, s_ishl, s_ishr, s_iushr, s_i2l, s_l2i, s_i2b, s_i2c, s_ladd, s_lsub, s_lmul, s_lneg, s_land, s_lor, s_lshl, s_lshr, s_lushr, s_lcmp, s_l2d, s_l2f, s_i2d, s_i2f, s_idiv, s_ldiv, s_irem, s_lrem, s_dcmp, s_fcmp, s_ddiv, s_fdiv, s_f2d, s_dup_i, s_dup_r, s_dup2_l, s_dup2_ir, s_pop, s_iconst, s_bipush, s_sipush, s_lconst, s_fconst, s_dconst, s_ldc, s_ldc_w, s_ldc2_w, s_iload, s_iload_n0, s_iload_n1, s_iload_n2, s_iload_n3, s_lload, s_lload_n0, s_lload_n1, s_lload_n2, s_lload_n3, s_fload, s_fload_n0, s_fload_n1, s_fload_n2, s_fload_n3, s_dload, s_dload_n0, s_dload_n1, s_dload_n2, s_dload_n3, s_aload, s_aload_n0, s_aload_n1, s_aload_n2, s_aload_n3, s_istore, s_istore_n0, s_istore_n1, s_istore_n2, s_istore_n3, s_lstore, s_lstore_n0, s_lstore_n1, s_lstore_n2, s_lstore_n3, s_fstore, s_fstore_n0, s_fstore_n1, s_fstore_n2, s_fstore_n3, s_dstore, s_dstore_n0, s_dstore_n1, s_dstore_n2, s_dstore_n3, s_astore, s_astore_n0, s_astore_n1, s_astore_n2, s_astore_n3, s_astoreN_n, s_iinc, s_if_eq, s_if_lt, s_if_ge, s_if_gt, s_if_le, s_if_ne, s_ic_eq, s_ic_lt, s_ic_ge, s_ic_gt, s_ic_le, s_ic_ne, s_ifnn_r, s_ifnn_n, s_goto, s_nop, s_tab, s_getfield, s_putfield, s_anewarray, s_newarray, s_iaload, s_baload, s_caload, s_laload, s_daload, s_aaload, s_iastore, s_bastore, s_castore, s_lastore, s_dastore, s_aastore, s_arraylength, s_lreturn, s_freturn, s_dreturn, s_areturn, s_return, s_new, s_thr, ld_Z, ld_S, kl_Z, pd_0, pd_c, pd_n, ag_i, ag_r, ag_l, ag_n, st_Z, st_On, st_Oi, st_Or, st_Ol, st_S, s2_eq, mk_t, mk_f, mk_n, cl_v, cl_n, cl_if, vl_0, vl_1, vl_2, cv_i, cv_l, cv_d, cv_f, rf_s, qW_n, qW_i, qW_l, qW_r, qMem, x_get, x_putI, x_putL, x_ldL, x_ldI, x_ldA, x_stL, x_stI, x_isO, MK_1, MK_21, List.set_cons_zero, List.set_cons_succ, List.getElem?_cons_zero, List.getElem?_cons_succ, Option.map_some, List.tail_cons, i64_32, Nat.zero_add, Nat.reduceAdd, Nat.reduceLeDiff, Nat.le_refl, if_true, if_false, ite_true, ite_false, reduceIte, lnO, rfO, fn_0, f_0_0, f_0_1, f_0_2, f_0_3, f_0_4, f_0_5, f_0_6, f_0_7, f_0_8, f_0_9, f_0_10, f_0_11, f_0_12, f_0_13, f_0_14, fn_1, f_1_0, f_1_1, f_1_2, f_1_3, f_1_4, fn_2, f_2_0, f_2_1, f_2_2, f_2_3, f_2_4, f_2_5, fn_3, f_3_0, f_3_1, f_3_2, f_3_3, fn_4, f_4_0, f_4_1, f_4_2, f_4_3, f_4_4, f_4_5, fn_5, f_5_0, f_5_1, f_5_2, fn_6, f_6_0, f_6_1, f_6_2, fn_7, f_7_0, f_7_1, f_7_2, f_7_3, f_7_4, fn_8, f_8_0, f_8_1, f_8_2, f_8_3, f_8_4, f_8_5, f_8_6, f_8_7, fn_9, f_9_0, f_9_1, f_9_2, f_9_3, f_9_4, f_9_5, fn_10, f_10_0, f_10_1, f_10_2, f_10_3, f_10_4, f_10_5, f_10_6, f_10_7, f_10_8, f_10_9, f_10_10, f_10_11, f_10_12, f_10_13, f_10_14, f_10_15, f_10_16, f_10_17, f_10_18, f_10_19, f_10_20, f_10_21, f_10_22, f_10_23, Nat.reduceLT, cv_t, x_ld3, x_ld2, x_st3, x_st2, rm_g2, rm_g3, rm_g4, rm_g5, rm_g6, rm_g7, rm_s2, rm_s3, rm_s4, rm_s5, rm_s6, rm_s7, rm_t, c168, c170, c178, g8, tx, g1, hE1, q01, q11, qk1, i1, z1, g2, hE2, q02, q12, qk2, i2, z2, g3, hE3, q03, q13, qk3, i3, z3, g4, hE4, q04, q14, qk4, i4, z4, g5, hE5, q05, q15, qk5, i5, z5, h0, h2, n1, pq_E, pq_sE, nia0, nia1, nia2, nia3, nia4, iK, zK, i00, z00, i01, z01, rK, pK, c00, c01]
  · rw [if_pos q]
    have qz5 := q
    have qz4 := hz5 qz5
    have qz3 := hz4 qz4
    have qz2 := hz3 qz3
    have qz1 := hz2 qz2
    rw [if_pos qz1] at hv1
    obtain ⟨l1, u1⟩ := hb1 qz1 (by decide) (by first | decide | (rw [a1.2]; omega) | (rw [e1.2]; omega))
    rw [e1.2] at u1
    have l1 : 0 ≤ w1.toInt := l1
    have vv1 : v1.toInt = w1.toInt := by rw [← hv1, Int32.toInt_toInt64]
    rw [if_pos qz2] at hv2
    obtain ⟨l2, u2⟩ := hb2 qz2 (by decide) (by first | decide | (rw [a1.2]; omega) | (rw [e1.2]; omega))
    rw [a1.2] at u2
    have l2 : 0 ≤ w2.toInt := l2
    have vv2 : v2.toInt = w2.toInt := by rw [← hv2, Int32.toInt_toInt64]
    rw [if_pos qz3] at hv3
    obtain ⟨l3, u3⟩ := hb3 qz3 (by decide) (by first | decide | (rw [a1.2]; omega) | (rw [e1.2]; omega))
    have u3 : w3.toInt ≤ 1000000 := u3
    have l3 : 1 ≤ w3.toInt := l3
    have vv3 : v3.toInt = w3.toInt := by rw [← hv3, Int32.toInt_toInt64]
    rw [if_pos qz4] at hv4
    obtain ⟨l4, u4⟩ := hb4 qz4 (by decide) (by first | decide | (rw [a1.2]; omega) | (rw [e1.2]; omega))
    have u4 : w4.toInt ≤ 20000 := u4
    have l4 : 1 ≤ w4.toInt := l4
    have vv4 : v4.toInt = w4.toInt := by rw [← hv4, Int32.toInt_toInt64]
    rw [if_pos qz5] at hv5
    obtain ⟨l5, u5⟩ := hb5 qz5 (by decide) (by first | decide | (rw [a1.2]; omega) | (rw [e1.2]; omega))
    have u5 : w5.toInt ≤ 400 := u5
    have l5 : 0 ≤ w5.toInt := l5
    have vv5 : v5.toInt = w5.toInt := by rw [← hv5, Int32.toInt_toInt64]
    rw [show cn D 4 = b from cn_of hR.n4 (by omega)]
    have j0 := hR.1
    have j1 : J 1 a e f i b p E1 := by
      rw [← hE1]
      refine j0.put ?_
      show IB (jB _ _ _ _ _ _ _ (125 + 5 * b + 0)) _
      rw [jB_Bl hlt (by decide)]
      simp only [Nat.reduceEqDiff, Nat.zero_ne_one, if_false, if_true, if_neg (Nat.lt_irrefl b)]
      constructor <;> dsimp only <;> rw [vv1] <;> omega
    have j2 : J 1 a e f i b p E2 := by
      rw [← hE2]
      refine j1.put ?_
      show IB (jB _ _ _ _ _ _ _ (125 + 5 * b + 1)) _
      rw [jB_Bl hlt (by decide)]
      simp only [Nat.reduceEqDiff, Nat.zero_ne_one, if_false, if_true, if_neg (Nat.lt_irrefl b)]
      constructor <;> dsimp only <;> rw [vv2] <;> omega
    have j3 : J 1 a e f i b p E3 := by
      rw [← hE3]
      refine j2.put ?_
      show IB (jB _ _ _ _ _ _ _ (125 + 5 * b + 2)) _
      rw [jB_Bl hlt (by decide)]
      simp only [Nat.reduceEqDiff, Nat.zero_ne_one, if_false, if_true, if_neg (Nat.lt_irrefl b)]
      constructor <;> dsimp only <;> rw [vv3] <;> omega
    have j4 : J 1 a e f i b p E4 := by
      rw [← hE4]
      refine j3.put ?_
      show IB (jB _ _ _ _ _ _ _ (125 + 5 * b + 3)) _
      rw [jB_Bl hlt (by decide)]
      simp only [Nat.reduceEqDiff, Nat.zero_ne_one, if_false, if_true, if_neg (Nat.lt_irrefl b)]
      constructor <;> dsimp only <;> rw [vv4] <;> omega
    have j5 : J 1 a e f i b p E5 := by
      rw [← hE5]
      refine j4.put ?_
      show IB (jB _ _ _ _ _ _ _ (125 + 5 * b + 4)) _
      rw [jB_Bl hlt (by decide)]
      simp only [Nat.reduceEqDiff, Nat.zero_ne_one, if_false, if_true, if_neg (Nat.lt_irrefl b)]
      constructor <;> dsimp only <;> rw [vv5] <;> omega
    have f0 : E5 (125 + 5 * b) = v1 := by rw [← hE5, sv_get, if_neg (by omega), ← hE4, sv_get, if_neg (by omega), ← hE3, sv_get, if_neg (by omega), ← hE2, sv_get, if_neg (by omega), ← hE1, sv_get, if_pos rfl]
    have f1 : E5 (125 + 5 * b + 1) = v2 := by rw [← hE5, sv_get, if_neg (by omega), ← hE4, sv_get, if_neg (by omega), ← hE3, sv_get, if_neg (by omega), ← hE2, sv_get, if_pos rfl]
    have f2 : E5 (125 + 5 * b + 2) = v3 := by rw [← hE5, sv_get, if_neg (by omega), ← hE4, sv_get, if_neg (by omega), ← hE3, sv_get, if_pos rfl]
    have f3 : E5 (125 + 5 * b + 3) = v4 := by rw [← hE5, sv_get, if_neg (by omega), ← hE4, sv_get, if_pos rfl]
    have f4 : E5 (125 + 5 * b + 4) = v5 := by rw [← hE5, sv_get, if_pos rfl]
    have fo : ∀ k, (∀ r, r < 5 → k ≠ 125 + 5 * b + r) → E5 k = E k := fun k hk => by
      rw [← hE5, sv_get, if_neg (by have := hk 4 (by decide); omega), ← hE4, sv_get, if_neg (by have := hk 3 (by decide); omega), ← hE3, sv_get, if_neg (by have := hk 2 (by decide); omega), ← hE2, sv_get, if_neg (by have := hk 1 (by decide); omega), ← hE1, sv_get, if_neg (by have := hk 0 (by decide); omega)]
    refine ⟨a, e, f, i, b + 1, p, ?_, ?_, ?_, ?_, ?_, ?_⟩
    · refine J.upB j5 hlt ?_ ?_ ?_
      · rw [f0, vv1]; omega
      · rw [f1, vv2]; omega
      · rw [f2, vv3]; omega
    · intro k hk
      unfold kDB kDB0
      by_cases hK : k = 4
      · rw [hK, sv_get, if_pos rfl, sv_get, if_pos rfl]
      rw [sv_get, if_neg hK, sv_get (d := E5), if_neg hK]
      by_cases hn : ∃ r, r < 5 ∧ k = 125 + 5 * b + r
      · obtain ⟨r, hr, rfl⟩ := hn
        have hr' : r = 0 ∨ r = 1 ∨ r = 2 ∨ r = 3 ∨ r = 4 := by omega
        rcases hr' with rfl | rfl | rfl | rfl | rfl
        · simp only [sv_get, if_true]
          repeat (first | rw [if_pos (by omega)] | rw [if_neg (by omega)])
          show _ = E5 (125 + 5 * b)
          rw [f0, ← hv1]
        · simp only [sv_get, if_true]
          repeat (first | rw [if_pos (by omega)] | rw [if_neg (by omega)])
          rw [f1, ← hv2]
        · simp only [sv_get, if_true]
          repeat (first | rw [if_pos (by omega)] | rw [if_neg (by omega)])
          rw [f2, ← hv3]
        · simp only [sv_get, if_true]
          repeat (first | rw [if_pos (by omega)] | rw [if_neg (by omega)])
          rw [f3, ← hv4]
        · simp only [sv_get, if_true]
          repeat (first | rw [if_pos (by omega)] | rw [if_neg (by omega)])
          rw [f4, ← hv5]
      · rw [fo k (fun r hr hq => hn ⟨r, hr, hq⟩)]
        simp only [sv_get]
        rw [if_neg (show ¬ k = 125 + 5 * b + 4 from fun q => hn ⟨4, by decide, q⟩)]
        rw [if_neg (show ¬ k = 125 + 5 * b + 3 from fun q => hn ⟨3, by decide, q⟩)]
        rw [if_neg (show ¬ k = 125 + 5 * b + 2 from fun q => hn ⟨2, by decide, q⟩)]
        rw [if_neg (show ¬ k = 125 + 5 * b + 1 from fun q => hn ⟨1, by decide, q⟩)]
        rw [if_neg (show ¬ k = 125 + 5 * b from fun q => hn ⟨0, by decide, q⟩)]
        refine hR.2.1 k ?_
        have hk2 : ∀ r, r < 5 → k ≠ 125 + 5 * b + r := fun r hr hq => hn ⟨r, hr, hq⟩
        have k0 := hk2 0 (by decide)
        have k1 := hk2 1 (by decide)
        have k2 := hk2 2 (by decide)
        have k3 := hk2 3 (by decide)
        have k4 := hk2 4 (by decide)
        unfold Live at hk ⊢
        omega
    · refine ⟨fun q h1 h2 => ?_, fun q h1 h2 => ?_, fun q h1 => ?_⟩
      · rw [sv_get, if_neg (by omega), sv_get, if_neg (by omega), fo _ (fun r hr => by omega), fo _ (fun r hr => by omega)]
        exact hR.2.2.1.1 q (by omega) h2
      · rw [sv_get, if_neg (by omega), sv_get, if_neg (by omega), fo _ (fun r hr => by omega), fo _ (fun r hr => by omega)]
        exact hR.2.2.1.2.1 q (by omega) h2
      · rw [sv_get, if_neg (by omega), fo _ (fun r hr => by omega)]
        exact hR.2.2.1.2.2 q h1
    · rw [sv_get, if_neg (by decide), fo _ (fun r hr => by omega)]
      exact hR.2.2.2.1
    · unfold kDB kDB0
      simp only [sv_get]
      repeat rw [if_neg (by omega)]
      exact hR.2.2.2.2.1
    · unfold kDB kDB0
      simp only [sv_get]
      repeat rw [if_neg (by omega)]
      exact hR.2.2.2.2.2
end MPD
