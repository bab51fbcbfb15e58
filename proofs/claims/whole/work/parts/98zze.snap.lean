/-! ===== The world of the loop; snapshots ===== -/
def LO (y : Nat → Option qSh) (M : Nat) : Prop := y (M + 15) = some (.inr (.inl (1, 1))) ∧ y (M + 16) = some (.inr (.inl (5, 1)))
def Sn (y : Nat → Option qSh) (X M k : Nat) (μ : qMu) (n : Nat) : Prop := ∃ f : Nat → Option Nat, y (X + 464) = some (.inr (.inr (10, 2, f))) ∧ (∀ q, q ≤ 1 → (f q = none ∧ (μ (M + 6) q).toInt32 = 0) ∨ ∃ B, f q = some B ∧ M + 17 ≤ B ∧ B + 41 ≤ n ∧ BL y B ∧ (μ (M + 6) q).toInt32 = 1 ∧ PR k (rd μ B) (fun i => μ (M + 5) (391 * q + i))) ∧ ∀ q r B C, q ≤ 1 → r ≤ 1 → q ≠ r → f q = some B → f r = some C → B + 41 ≤ C ∨ C + 41 ≤ B
def Wd (G : qG) (X M k : Nat) (y : Nat → Option qSh) (μ : qMu) (n : Nat) : Prop := SH y X M ∧ Iv G y X M k μ ∧ Sn y X M k μ n ∧ M + 17 ≤ n ∧ LO y M
def Lw (M : Nat) (μ ν : qMu) : Prop := ν (M + 15) = μ (M + 15) ∧ ν (M + 16) = μ (M + 16)
def OpW (G : qG) (X M : Nat) (cd : Nat → Int64) (kd cm : Nat) (ca : List Value) (mm : Nat) (ma : List Value) : Prop := ∀ k y μ n s, k < 900 → Wd G X M k y μ n →
  (∃ E v', qR PG G (qEntry PG cm (.ref X :: ca) (MK y μ n s)) = exc E y μ n s ∧ cd E ≠ 0 ∧ vk v' = kd ∧ ∀ μ1 n1 s1, n ≤ n1 → Lx M μ μ1 → ∃ μ2, Wd G X M (k + 1) y μ2 n1 ∧ Lw M μ1 μ2 ∧ qR PG G (qEntry PG mm (.ref M :: ma) (MK y μ1 n1 s1)) = some (.inl (some v'), MK y μ2 n1 s1) ∧ μ2 M 7 = cd E) ∨
  (∃ v y1 ν n' s', n ≤ n' ∧ n' ≤ n + 41 ∧ s' ≤ s + 436 ∧ LO y1 M ∧ (∀ a, a < X → y1 a = y a) ∧ qR PG G (qEntry PG cm (.ref X :: ca) (MK y μ n s)) = some (.inl (some v), MK y1 ν n' s') ∧ Lw M μ ν ∧ vk v = kd ∧ ∀ μ1 n1 s1, n' ≤ n1 → Lx M ν μ1 → ∃ μ2, Wd G X M (k + 1) y1 μ2 n1 ∧ Lw M μ1 μ2 ∧ qR PG G (qEntry PG mm (.ref M :: ma) (MK y1 μ1 n1 s1)) = some (.inl (some v), MK y1 μ2 n1 s1) ∧ μ2 M 7 = 0)
section SNP
variable {G : qG} {y y' : Nat → Option qSh} {μ ν : qMu} {X M k n s : Nat} {cd : Nat → Int64} {kd cm mm : Nat} {ca ma : List Value} {x : Int32}
theorem Sn.of {k' n' : Nat} (h : Sn y X M k μ n) (hl : ∀ a, M + 17 ≤ a ∨ a = M + 5 ∨ a = M + 6 → ν a = μ a) (hn : n ≤ n') (hk : k ≤ k') (hk2 : k' ≤ 1000) : Sn y X M k' ν n' := by
  obtain ⟨f, h1, h2, h3⟩ := h
  refine ⟨f, h1, fun q hq => ?_, h3⟩
  rcases h2 q hq with ⟨a1, a2⟩ | ⟨B, b1, b2, b3, b4, b5, b6⟩
  · exact Or.inl ⟨a1, by rw [hl _ (by omega)]; exact a2⟩
  · refine Or.inr ⟨B, b1, b2, by omega, b4, by rw [hl _ (by omega)]; exact b5, ?_⟩
    have e : rd ν B = rd μ B := by
      funext i
      show ν (B + (bkInv i).1) (bkInv i).2 = μ (B + (bkInv i).1) (bkInv i).2
      rw [hl _ (by omega)]
    rw [e, hl (M + 5) (by omega)]
    exact b6.mono hk hk2
theorem OpI.toW (h : ∀ y, SH y X M → OpI G y X M cd kd cm ca mm ma) : OpW G X M cd kd cm ca mm ma := by
  intro k y μ n s hk ⟨hS, hI, hSn, hn, hL⟩
  have hX := hS.2.2.2.2.2
  rcases h y hS k μ n s hk hI with ⟨E, v', t1, t2, tk, t3⟩ | ⟨v, ν, t1, t2, tk, t3⟩
  · refine Or.inl ⟨E, v', t1, t2, tk, fun μ1 n1 s1 h1 hx => ?_⟩
    obtain ⟨μ2, r1, r2, r3, r4⟩ := t3 μ1 n1 s1 hx
    exact ⟨μ2, ⟨hS, r1, hSn.of (fun a ha => by rw [r2 a (by omega), hx a (by omega) (by omega)]) h1 (Nat.le_succ k) (by omega), by omega, hL⟩, ⟨r2 _ (by omega), r2 _ (by omega)⟩, r3, r4⟩
  · refine Or.inr ⟨v, y, ν, n, s, Nat.le_refl _, by omega, by omega, hL, fun _ _ => rfl, t1, ⟨t2 _ (by omega), t2 _ (by omega)⟩, tk, fun μ1 n1 s1 h1 hx => ?_⟩
    obtain ⟨μ2, r1, r2, r3, r4⟩ := t3 μ1 n1 s1 hx
    exact ⟨μ2, ⟨hS, r1, hSn.of (fun a ha => by rw [r2 a (by omega), hx a (by omega) (by omega), t2 a (by omega)]) h1 (Nat.le_succ k) (by omega), by omega, hL⟩, ⟨r2 _ (by omega), r2 _ (by omega)⟩, r3, r4⟩
theorem t153 : qR PG G (qEntry PG 153 [.int x] (MK y μ n s)) = if 0 ≤ x ∧ x ≤ 1 then some (.inl none, MK y μ n s) else exc 101 y μ n s := by
  have g := t93 (G := G) (y := y) (μ := μ) (n := n) (s := s) (x := x) (lo := 0) (hi := 1)
  unfold exc at g ⊢
  by_cases h : 0 ≤ x ∧ x ≤ 1
  · rw [if_pos h] at g ⊢
    simp -implicitDefEqProofs only [e153, K153_0, j153_0, x153, s_iadd, s_isub, s_imul, s_ineg, s_iand, s_ior, s_ixor, s_ishl, s_ishr, s_iushr, s_i2l, s_l2i, s_i2b, s_i2c, s_ladd, s_lsub, s_lmul, s_lneg, s_land, s_lor, s_lshl, s_lshr, s_lushr, s_lcmp, s_l2d, s_l2f, s_i2d, s_i2f, s_idiv, s_ldiv, s_irem, s_lrem, s_dcmp, s_fcmp, s_ddiv, s_fdiv, s_f2d, s_dup_i, s_dup_r, s_dup2_l, s_dup2_ir, s_pop, s_iconst, s_bipush, s_sipush, s_lconst, s_fconst, s_dconst, s_ldc, s_ldc_w, s_ldc2_w, s_iload, s_iload_n0, s_iload_n1, s_iload_n2, s_iload_n3, s_lload, s_lload_n0, s_lload_n1, s_lload_n2, s_lload_n3, s_fload, s_fload_n0, s_fload_n1, s_fload_n2, s_fload_n3, s_dload, s_dload_n0, s_dload_n1, s_dload_n2, s_dload_n3, s_aload, s_aload_n0, s_aload_n1, s_aload_n2, s_aload_n3, s_istore, s_istore_n0, s_istore_n1, s_istore_n2, s_istore_n3, s_lstore, s_lstore_n0, s_lstore_n1, s_lstore_n2, s_lstore_n3, s_fstore, s_fstore_n0, s_fstore_n1, s_fstore_n2, s_fstore_n3, s_dstore, s_dstore_n0, s_dstore_n1, s_dstore_n2, s_dstore_n3, s_astore, s_astore_n0, s_astore_n1, s_astore_n2, s_astore_n3, s_astoreN_n, s_iinc, s_if_eq, s_if_lt, s_if_ge, s_if_gt, s_if_le, s_if_ne, s_ic_eq, s_ic_lt, s_ic_ge, s_ic_gt, s_ic_le, s_ic_ne, s_ifnn_r, s_ifnn_n, s_goto, s_nop, s_tab, s_getfield, s_putfield, s_anewarray, s_newarray, s_iaload, s_baload, s_caload, s_laload, s_daload, s_aaload, s_iastore, s_bastore, s_castore, s_lastore, s_dastore, s_aastore, s_arraylength, s_lreturn, s_freturn, s_dreturn, s_areturn, s_return, s_new, s_thr, ld_Z, ld_S, kl_Z, pd_0, pd_c, pd_n, ag_i, ag_r, ag_l, ag_n, st_Z, st_On, st_Oi, st_Or, st_Ol, st_S, s2_eq, mk_t, mk_f, mk_n, cl_v, cl_n, cl_if, vl_0, vl_1, vl_2, cv_i, cv_l, cv_d, cv_f, rf_s, qW_n, qW_i, qW_l, qW_r, qMem, x_get, x_putI, x_putL, x_ldL, x_ldI, x_ldA, x_stL, x_stI, x_isO, MK_1, MK_21, List.set_cons_zero, List.set_cons_succ, List.getElem?_cons_zero, List.getElem?_cons_succ, Option.map_some, List.tail_cons, i64_32, Nat.zero_add, Nat.reduceAdd, Nat.reduceLeDiff, Nat.le_refl, if_true, if_false, ite_true, ite_false, reduceIte, lnO, rfO, fn_0, f_0_0, f_0_1, f_0_2, f_0_3, f_0_4, f_0_5, f_0_6, f_0_7, f_0_8, f_0_9, f_0_10, f_0_11, f_0_12, f_0_13, f_0_14, fn_1, f_1_0, f_1_1, f_1_2, f_1_3, f_1_4, fn_2, f_2_0, f_2_1, f_2_2, f_2_3, f_2_4, f_2_5, fn_3, f_3_0, f_3_1, f_3_2, f_3_3, fn_4, f_4_0, f_4_1, f_4_2, f_4_3, f_4_4, f_4_5, fn_5, f_5_0, f_5_1, f_5_2, fn_6, f_6_0, f_6_1, f_6_2, fn_7, f_7_0, f_7_1, f_7_2, f_7_3, f_7_4, fn_8, f_8_0, f_8_1, f_8_2, f_8_3, f_8_4, f_8_5, f_8_6, f_8_7, fn_9, f_9_0, f_9_1, f_9_2, f_9_3, f_9_4, f_9_5, fn_10, f_10_0, f_10_1, f_10_2, f_10_3, f_10_4, f_10_5, f_10_6, f_10_7, f_10_8, f_10_9, f_10_10, f_10_11, f_10_12, f_10_13, f_10_14, f_10_15, f_10_16, f_10_17, f_10_18, f_10_19, f_10_20, f_10_21, f_10_22, f_10_23, Nat.reduceLT, cv_t, x_ld3, x_ld2, x_st3, x_st2, rm_g2, rm_g3, rm_g4, rm_g5, rm_g6, rm_g7, rm_s2, rm_s3, rm_s4, rm_s5, rm_s6, rm_s7, rm_t, c93, g]
  · rw [if_neg h] at g ⊢
    simp -implicitDefEqProofs only [e153, K153_0, j153_0, x153, s_iadd, s_isub, s_imul, s_ineg, s_iand, s_ior, s_ixor, s_ishl, s_ishr, s_iushr, s_i2l, s_l2i, s_i2b, s_i2c, s_ladd, s_lsub, s_lmul, s_lneg, s_land, s_lor, s_lshl, s_lshr, s_lushr, s_lcmp, s_l2d, s_l2f, s_i2d, s_i2f, s_idiv, s_ldiv, s_irem, s_lrem, s_dcmp, s_fcmp, s_ddiv, s_fdiv, s_f2d, s_dup_i, s_dup_r, s_dup2_l, s_dup2_ir, s_pop, s_iconst, s_bipush, s_sipush, s_lconst, s_fconst, s_dconst, s_ldc, s_ldc_w, s_ldc2_w, s_iload, s_iload_n0, s_iload_n1, s_iload_n2, s_iload_n3, s_lload, s_lload_n0, s_lload_n1, s_lload_n2, s_lload_n3, s_fload, s_fload_n0, s_fload_n1, s_fload_n2, s_fload_n3, s_dload, s_dload_n0, s_dload_n1, s_dload_n2, s_dload_n3, s_aload, s_aload_n0, s_aload_n1, s_aload_n2, s_aload_n3, s_istore, s_istore_n0, s_istore_n1, s_istore_n2, s_istore_n3, s_lstore, s_lstore_n0, s_lstore_n1, s_lstore_n2, s_lstore_n3, s_fstore, s_fstore_n0, s_fstore_n1, s_fstore_n2, s_fstore_n3, s_dstore, s_dstore_n0, s_dstore_n1, s_dstore_n2, s_dstore_n3, s_astore, s_astore_n0, s_astore_n1, s_astore_n2, s_astore_n3, s_astoreN_n, s_iinc, s_if_eq, s_if_lt, s_if_ge, s_if_gt, s_if_le, s_if_ne, s_ic_eq, s_ic_lt, s_ic_ge, s_ic_gt, s_ic_le, s_ic_ne, s_ifnn_r, s_ifnn_n, s_goto, s_nop, s_tab, s_getfield, s_putfield, s_anewarray, s_newarray, s_iaload, s_baload, s_caload, s_laload, s_daload, s_aaload, s_iastore, s_bastore, s_castore, s_lastore, s_dastore, s_aastore, s_arraylength, s_lreturn, s_freturn, s_dreturn, s_areturn, s_return, s_new, s_thr, ld_Z, ld_S, kl_Z, pd_0, pd_c, pd_n, ag_i, ag_r, ag_l, ag_n, st_Z, st_On, st_Oi, st_Or, st_Ol, st_S, s2_eq, mk_t, mk_f, mk_n, cl_v, cl_n, cl_if, vl_0, vl_1, vl_2, cv_i, cv_l, cv_d, cv_f, rf_s, qW_n, qW_i, qW_l, qW_r, qMem, x_get, x_putI, x_putL, x_ldL, x_ldI, x_ldA, x_stL, x_stI, x_isO, MK_1, MK_21, List.set_cons_zero, List.set_cons_succ, List.getElem?_cons_zero, List.getElem?_cons_succ, Option.map_some, List.tail_cons, i64_32, Nat.zero_add, Nat.reduceAdd, Nat.reduceLeDiff, Nat.le_refl, if_true, if_false, ite_true, ite_false, reduceIte, lnO, rfO, fn_0, f_0_0, f_0_1, f_0_2, f_0_3, f_0_4, f_0_5, f_0_6, f_0_7, f_0_8, f_0_9, f_0_10, f_0_11, f_0_12, f_0_13, f_0_14, fn_1, f_1_0, f_1_1, f_1_2, f_1_3, f_1_4, fn_2, f_2_0, f_2_1, f_2_2, f_2_3, f_2_4, f_2_5, fn_3, f_3_0, f_3_1, f_3_2, f_3_3, fn_4, f_4_0, f_4_1, f_4_2, f_4_3, f_4_4, f_4_5, fn_5, f_5_0, f_5_1, f_5_2, fn_6, f_6_0, f_6_1, f_6_2, fn_7, f_7_0, f_7_1, f_7_2, f_7_3, f_7_4, fn_8, f_8_0, f_8_1, f_8_2, f_8_3, f_8_4, f_8_5, f_8_6, f_8_7, fn_9, f_9_0, f_9_1, f_9_2, f_9_3, f_9_4, f_9_5, fn_10, f_10_0, f_10_1, f_10_2, f_10_3, f_10_4, f_10_5, f_10_6, f_10_7, f_10_8, f_10_9, f_10_10, f_10_11, f_10_12, f_10_13, f_10_14, f_10_15, f_10_16, f_10_17, f_10_18, f_10_19, f_10_20, f_10_21, f_10_22, f_10_23, Nat.reduceLT, cv_t, x_ld3, x_ld2, x_st3, x_st2, rm_g2, rm_g3, rm_g4, rm_g5, rm_g6, rm_g7, rm_s2, rm_s3, rm_s4, rm_s5, rm_s6, rm_s7, rm_t, c93, g, x153]
theorem t152n (hx : ¬ (0 ≤ x ∧ x ≤ 1)) : qR PG G (qEntry PG 152 [.ref X, .int x] (MK y μ n s)) = exc 101 y μ n s := by
  have g := t153 (G := G) (y := y) (μ := μ) (n := n) (s := s) (x := x)
  rw [if_neg hx] at g
  unfold exc at g ⊢
  simp -implicitDefEqProofs only [e152, K152_0, s_iadd, s_isub, s_imul, s_ineg, s_iand, s_ior, s_ixor, s_ishl, s_ishr, s_iushr, s_i2l, s_l2i, s_i2b, s_i2c, s_ladd, s_lsub, s_lmul, s_lneg, s_land, s_lor, s_lshl, s_lshr, s_lushr, s_lcmp, s_l2d, s_l2f, s_i2d, s_i2f, s_idiv, s_ldiv, s_irem, s_lrem, s_dcmp, s_fcmp, s_ddiv, s_fdiv, s_f2d, s_dup_i, s_dup_r, s_dup2_l, s_dup2_ir, s_pop, s_iconst, s_bipush, s_sipush, s_lconst, s_fconst, s_dconst, s_ldc, s_ldc_w, s_ldc2_w, s_iload, s_iload_n0, s_iload_n1, s_iload_n2, s_iload_n3, s_lload, s_lload_n0, s_lload_n1, s_lload_n2, s_lload_n3, s_fload, s_fload_n0, s_fload_n1, s_fload_n2, s_fload_n3, s_dload, s_dload_n0, s_dload_n1, s_dload_n2, s_dload_n3, s_aload, s_aload_n0, s_aload_n1, s_aload_n2, s_aload_n3, s_istore, s_istore_n0, s_istore_n1, s_istore_n2, s_istore_n3, s_lstore, s_lstore_n0, s_lstore_n1, s_lstore_n2, s_lstore_n3, s_fstore, s_fstore_n0, s_fstore_n1, s_fstore_n2, s_fstore_n3, s_dstore, s_dstore_n0, s_dstore_n1, s_dstore_n2, s_dstore_n3, s_astore, s_astore_n0, s_astore_n1, s_astore_n2, s_astore_n3, s_astoreN_n, s_iinc, s_if_eq, s_if_lt, s_if_ge, s_if_gt, s_if_le, s_if_ne, s_ic_eq, s_ic_lt, s_ic_ge, s_ic_gt, s_ic_le, s_ic_ne, s_ifnn_r, s_ifnn_n, s_goto, s_nop, s_tab, s_getfield, s_putfield, s_anewarray, s_newarray, s_iaload, s_baload, s_caload, s_laload, s_daload, s_aaload, s_iastore, s_bastore, s_castore, s_lastore, s_dastore, s_aastore, s_arraylength, s_lreturn, s_freturn, s_dreturn, s_areturn, s_return, s_new, s_thr, ld_Z, ld_S, kl_Z, pd_0, pd_c, pd_n, ag_i, ag_r, ag_l, ag_n, st_Z, st_On, st_Oi, st_Or, st_Ol, st_S, s2_eq, mk_t, mk_f, mk_n, cl_v, cl_n, cl_if, vl_0, vl_1, vl_2, cv_i, cv_l, cv_d, cv_f, rf_s, qW_n, qW_i, qW_l, qW_r, qMem, x_get, x_putI, x_putL, x_ldL, x_ldI, x_ldA, x_stL, x_stI, x_isO, MK_1, MK_21, List.set_cons_zero, List.set_cons_succ, List.getElem?_cons_zero, List.getElem?_cons_succ, Option.map_some, List.tail_cons, i64_32, Nat.zero_add, Nat.reduceAdd, Nat.reduceLeDiff, Nat.le_refl, if_true, if_false, ite_true, ite_false, reduceIte, lnO, rfO, fn_0, f_0_0, f_0_1, f_0_2, f_0_3, f_0_4, f_0_5, f_0_6, f_0_7, f_0_8, f_0_9, f_0_10, f_0_11, f_0_12, f_0_13, f_0_14, fn_1, f_1_0, f_1_1, f_1_2, f_1_3, f_1_4, fn_2, f_2_0, f_2_1, f_2_2, f_2_3, f_2_4, f_2_5, fn_3, f_3_0, f_3_1, f_3_2, f_3_3, fn_4, f_4_0, f_4_1, f_4_2, f_4_3, f_4_4, f_4_5, fn_5, f_5_0, f_5_1, f_5_2, fn_6, f_6_0, f_6_1, f_6_2, fn_7, f_7_0, f_7_1, f_7_2, f_7_3, f_7_4, fn_8, f_8_0, f_8_1, f_8_2, f_8_3, f_8_4, f_8_5, f_8_6, f_8_7, fn_9, f_9_0, f_9_1, f_9_2, f_9_3, f_9_4, f_9_5, fn_10, f_10_0, f_10_1, f_10_2, f_10_3, f_10_4, f_10_5, f_10_6, f_10_7, f_10_8, f_10_9, f_10_10, f_10_11, f_10_12, f_10_13, f_10_14, f_10_15, f_10_16, f_10_17, f_10_18, f_10_19, f_10_20, f_10_21, f_10_22, f_10_23, Nat.reduceLT, cv_t, x_ld3, x_ld2, x_st3, x_st2, rm_g2, rm_g3, rm_g4, rm_g5, rm_g6, rm_g7, rm_s2, rm_s3, rm_s4, rm_s5, rm_s6, rm_s7, rm_t, c153, g, x152]
theorem t154n (hx : ¬ (0 ≤ x ∧ x ≤ 1)) : qR PG G (qEntry PG 154 [.ref X, .int x] (MK y μ n s)) = exc 101 y μ n s := by
  have g := t153 (G := G) (y := y) (μ := μ) (n := n) (s := s) (x := x)
  rw [if_neg hx] at g
  unfold exc at g ⊢
  simp -implicitDefEqProofs only [e154, K154_0, s_iadd, s_isub, s_imul, s_ineg, s_iand, s_ior, s_ixor, s_ishl, s_ishr, s_iushr, s_i2l, s_l2i, s_i2b, s_i2c, s_ladd, s_lsub, s_lmul, s_lneg, s_land, s_lor, s_lshl, s_lshr, s_lushr, s_lcmp, s_l2d, s_l2f, s_i2d, s_i2f, s_idiv, s_ldiv, s_irem, s_lrem, s_dcmp, s_fcmp, s_ddiv, s_fdiv, s_f2d, s_dup_i, s_dup_r, s_dup2_l, s_dup2_ir, s_pop, s_iconst, s_bipush, s_sipush, s_lconst, s_fconst, s_dconst, s_ldc, s_ldc_w, s_ldc2_w, s_iload, s_iload_n0, s_iload_n1, s_iload_n2, s_iload_n3, s_lload, s_lload_n0, s_lload_n1, s_lload_n2, s_lload_n3, s_fload, s_fload_n0, s_fload_n1, s_fload_n2, s_fload_n3, s_dload, s_dload_n0, s_dload_n1, s_dload_n2, s_dload_n3, s_aload, s_aload_n0, s_aload_n1, s_aload_n2, s_aload_n3, s_istore, s_istore_n0, s_istore_n1, s_istore_n2, s_istore_n3, s_lstore, s_lstore_n0, s_lstore_n1, s_lstore_n2, s_lstore_n3, s_fstore, s_fstore_n0, s_fstore_n1, s_fstore_n2, s_fstore_n3, s_dstore, s_dstore_n0, s_dstore_n1, s_dstore_n2, s_dstore_n3, s_astore, s_astore_n0, s_astore_n1, s_astore_n2, s_astore_n3, s_astoreN_n, s_iinc, s_if_eq, s_if_lt, s_if_ge, s_if_gt, s_if_le, s_if_ne, s_ic_eq, s_ic_lt, s_ic_ge, s_ic_gt, s_ic_le, s_ic_ne, s_ifnn_r, s_ifnn_n, s_goto, s_nop, s_tab, s_getfield, s_putfield, s_anewarray, s_newarray, s_iaload, s_baload, s_caload, s_laload, s_daload, s_aaload, s_iastore, s_bastore, s_castore, s_lastore, s_dastore, s_aastore, s_arraylength, s_lreturn, s_freturn, s_dreturn, s_areturn, s_return, s_new, s_thr, ld_Z, ld_S, kl_Z, pd_0, pd_c, pd_n, ag_i, ag_r, ag_l, ag_n, st_Z, st_On, st_Oi, st_Or, st_Ol, st_S, s2_eq, mk_t, mk_f, mk_n, cl_v, cl_n, cl_if, vl_0, vl_1, vl_2, cv_i, cv_l, cv_d, cv_f, rf_s, qW_n, qW_i, qW_l, qW_r, qMem, x_get, x_putI, x_putL, x_ldL, x_ldI, x_ldA, x_stL, x_stI, x_isO, MK_1, MK_21, List.set_cons_zero, List.set_cons_succ, List.getElem?_cons_zero, List.getElem?_cons_succ, Option.map_some, List.tail_cons, i64_32, Nat.zero_add, Nat.reduceAdd, Nat.reduceLeDiff, Nat.le_refl, if_true, if_false, ite_true, ite_false, reduceIte, lnO, rfO, fn_0, f_0_0, f_0_1, f_0_2, f_0_3, f_0_4, f_0_5, f_0_6, f_0_7, f_0_8, f_0_9, f_0_10, f_0_11, f_0_12, f_0_13, f_0_14, fn_1, f_1_0, f_1_1, f_1_2, f_1_3, f_1_4, fn_2, f_2_0, f_2_1, f_2_2, f_2_3, f_2_4, f_2_5, fn_3, f_3_0, f_3_1, f_3_2, f_3_3, fn_4, f_4_0, f_4_1, f_4_2, f_4_3, f_4_4, f_4_5, fn_5, f_5_0, f_5_1, f_5_2, fn_6, f_6_0, f_6_1, f_6_2, fn_7, f_7_0, f_7_1, f_7_2, f_7_3, f_7_4, fn_8, f_8_0, f_8_1, f_8_2, f_8_3, f_8_4, f_8_5, f_8_6, f_8_7, fn_9, f_9_0, f_9_1, f_9_2, f_9_3, f_9_4, f_9_5, fn_10, f_10_0, f_10_1, f_10_2, f_10_3, f_10_4, f_10_5, f_10_6, f_10_7, f_10_8, f_10_9, f_10_10, f_10_11, f_10_12, f_10_13, f_10_14, f_10_15, f_10_16, f_10_17, f_10_18, f_10_19, f_10_20, f_10_21, f_10_22, f_10_23, Nat.reduceLT, cv_t, x_ld3, x_ld2, x_st3, x_st2, rm_g2, rm_g3, rm_g4, rm_g5, rm_g6, rm_g7, rm_s2, rm_s3, rm_s4, rm_s5, rm_s6, rm_s7, rm_t, c153, g, x154]
theorem s1 {q : Nat} (hq : q ≤ 1) : 0 ≤ nI q ∧ nI q ≤ 1 := ⟨(mI_le (i := 0) (by omega) (by omega)).mpr (by omega), (mI_le (k := 1) (by omega) (by omega)).mpr hq⟩
theorem t152_1 {f : Nat → Option Nat} {q B : Nat} (hE : EL y X) (hs : y (X + 464) = some (.inr (.inr (10, 2, f)))) (hq : q ≤ 1) (hf : f q = some B) (hB : BL y B) (hd : X + 42 ≤ B) (hC : CtX (rd μ (X + 1))) : qR PG G (152, K152_1, [some (.ref X), some (.int (nI q))], [], MK y μ n s) = some (.inl (some (.int (rd μ (X + 1) 6).toInt32)), MK y (wr μ B (kCpy (rd μ B) (rd μ (X + 1)))) n s) := by
  obtain ⟨h0, h1, -⟩ := el_o hE
  have hb0 := hB.1
  have l1 := g_ldA (μ := μ) (n := n) (s := s) hs (ixok_n (i := q) (by omega) (by omega))
  rw [nI_clamp (by omega), hf] at l1
  dsimp only [va_rf] at l1
  have g := t46n (G := G) (μ := μ) (n := n) (s := s) (C := rd μ B) hB hE.2.1 (by omega) hC
  rw [wr_rd] at g
  have e1 : wr μ B (kCpy (rd μ B) (rd μ (X + 1))) (X + 1) 0 = rd μ (X + 1) 6 := by
    rw [wr_out (by omega)]
    rfl
  conv => lhs; unfold K152_1
  simp -implicitDefEqProofs only [s_iadd, s_isub, s_imul, s_ineg, s_iand, s_ior, s_ixor, s_ishl, s_ishr, s_iushr, s_i2l, s_l2i, s_i2b, s_i2c, s_ladd, s_lsub, s_lmul, s_lneg, s_land, s_lor, s_lshl, s_lshr, s_lushr, s_lcmp, s_l2d, s_l2f, s_i2d, s_i2f, s_idiv, s_ldiv, s_irem, s_lrem, s_dcmp, s_fcmp, s_ddiv, s_fdiv, s_f2d, s_dup_i, s_dup_r, s_dup2_l, s_dup2_ir, s_pop, s_iconst, s_bipush, s_sipush, s_lconst, s_fconst, s_dconst, s_ldc, s_ldc_w, s_ldc2_w, s_iload, s_iload_n0, s_iload_n1, s_iload_n2, s_iload_n3, s_lload, s_lload_n0, s_lload_n1, s_lload_n2, s_lload_n3, s_fload, s_fload_n0, s_fload_n1, s_fload_n2, s_fload_n3, s_dload, s_dload_n0, s_dload_n1, s_dload_n2, s_dload_n3, s_aload, s_aload_n0, s_aload_n1, s_aload_n2, s_aload_n3, s_istore, s_istore_n0, s_istore_n1, s_istore_n2, s_istore_n3, s_lstore, s_lstore_n0, s_lstore_n1, s_lstore_n2, s_lstore_n3, s_fstore, s_fstore_n0, s_fstore_n1, s_fstore_n2, s_fstore_n3, s_dstore, s_dstore_n0, s_dstore_n1, s_dstore_n2, s_dstore_n3, s_astore, s_astore_n0, s_astore_n1, s_astore_n2, s_astore_n3, s_astoreN_n, s_iinc, s_if_eq, s_if_lt, s_if_ge, s_if_gt, s_if_le, s_if_ne, s_ic_eq, s_ic_lt, s_ic_ge, s_ic_gt, s_ic_le, s_ic_ne, s_ifnn_r, s_ifnn_n, s_goto, s_nop, s_tab, s_getfield, s_putfield, s_anewarray, s_newarray, s_iaload, s_baload, s_caload, s_laload, s_daload, s_aaload, s_iastore, s_bastore, s_castore, s_lastore, s_dastore, s_aastore, s_arraylength, s_lreturn, s_freturn, s_dreturn, s_areturn, s_return, s_new, s_thr, ld_Z, ld_S, kl_Z, pd_0, pd_c, pd_n, ag_i, ag_r, ag_l, ag_n, st_Z, st_On, st_Oi, st_Or, st_Ol, st_S, s2_eq, mk_t, mk_f, mk_n, cl_v, cl_n, cl_if, vl_0, vl_1, vl_2, cv_i, cv_l, cv_d, cv_f, rf_s, qW_n, qW_i, qW_l, qW_r, qMem, x_get, x_putI, x_putL, x_ldL, x_ldI, x_ldA, x_stL, x_stI, x_isO, MK_1, MK_21, List.set_cons_zero, List.set_cons_succ, List.getElem?_cons_zero, List.getElem?_cons_succ, Option.map_some, List.tail_cons, i64_32, Nat.zero_add, Nat.reduceAdd, Nat.reduceLeDiff, Nat.le_refl, if_true, if_false, ite_true, ite_false, reduceIte, lnO, rfO, fn_0, f_0_0, f_0_1, f_0_2, f_0_3, f_0_4, f_0_5, f_0_6, f_0_7, f_0_8, f_0_9, f_0_10, f_0_11, f_0_12, f_0_13, f_0_14, fn_1, f_1_0, f_1_1, f_1_2, f_1_3, f_1_4, fn_2, f_2_0, f_2_1, f_2_2, f_2_3, f_2_4, f_2_5, fn_3, f_3_0, f_3_1, f_3_2, f_3_3, fn_4, f_4_0, f_4_1, f_4_2, f_4_3, f_4_4, f_4_5, fn_5, f_5_0, f_5_1, f_5_2, fn_6, f_6_0, f_6_1, f_6_2, fn_7, f_7_0, f_7_1, f_7_2, f_7_3, f_7_4, fn_8, f_8_0, f_8_1, f_8_2, f_8_3, f_8_4, f_8_5, f_8_6, f_8_7, fn_9, f_9_0, f_9_1, f_9_2, f_9_3, f_9_4, f_9_5, fn_10, f_10_0, f_10_1, f_10_2, f_10_3, f_10_4, f_10_5, f_10_6, f_10_7, f_10_8, f_10_9, f_10_10, f_10_11, f_10_12, f_10_13, f_10_14, f_10_15, f_10_16, f_10_17, f_10_18, f_10_19, f_10_20, f_10_21, f_10_22, f_10_23, Nat.reduceLT, cv_t, x_ld3, x_ld2, x_st3, x_st2, rm_g2, rm_g3, rm_g4, rm_g5, rm_g6, rm_g7, rm_s2, rm_s3, rm_s4, rm_s5, rm_s6, rm_s7, rm_t, r152, c46, g, l1, h0, h1, hb0, e1]
theorem t152_s {f : Nat → Option Nat} {q B : Nat} (hE : EL y X) (hs : y (X + 464) = some (.inr (.inr (10, 2, f)))) (hq : q ≤ 1) (hf : f q = some B) (hB : BL y B) (hd : X + 42 ≤ B) (hC : CtX (rd μ (X + 1))) : qR PG G (qEntry PG 152 [.ref X, .int (nI q)] (MK y μ n s)) = some (.inl (some (.int (rd μ (X + 1) 6).toInt32)), MK y (wr μ B (kCpy (rd μ B) (rd μ (X + 1)))) n s) := by
  obtain ⟨h0, h1, -⟩ := el_o hE
  have l1 := g_ldA (μ := μ) (n := n) (s := s) hs (ixok_n (i := q) (by omega) (by omega))
  rw [nI_clamp (by omega), hf] at l1
  dsimp only [va_rf] at l1
  have g := t153 (G := G) (y := y) (μ := μ) (n := n) (s := s) (x := nI q)
  rw [if_pos (s1 hq)] at g
  have g2 := t152_1 (G := G) (μ := μ) (n := n) (s := s) hE hs hq hf hB hd hC
  simp -implicitDefEqProofs only [e152, K152_0, j152_1, s_iadd, s_isub, s_imul, s_ineg, s_iand, s_ior, s_ixor, s_ishl, s_ishr, s_iushr, s_i2l, s_l2i, s_i2b, s_i2c, s_ladd, s_lsub, s_lmul, s_lneg, s_land, s_lor, s_lshl, s_lshr, s_lushr, s_lcmp, s_l2d, s_l2f, s_i2d, s_i2f, s_idiv, s_ldiv, s_irem, s_lrem, s_dcmp, s_fcmp, s_ddiv, s_fdiv, s_f2d, s_dup_i, s_dup_r, s_dup2_l, s_dup2_ir, s_pop, s_iconst, s_bipush, s_sipush, s_lconst, s_fconst, s_dconst, s_ldc, s_ldc_w, s_ldc2_w, s_iload, s_iload_n0, s_iload_n1, s_iload_n2, s_iload_n3, s_lload, s_lload_n0, s_lload_n1, s_lload_n2, s_lload_n3, s_fload, s_fload_n0, s_fload_n1, s_fload_n2, s_fload_n3, s_dload, s_dload_n0, s_dload_n1, s_dload_n2, s_dload_n3, s_aload, s_aload_n0, s_aload_n1, s_aload_n2, s_aload_n3, s_istore, s_istore_n0, s_istore_n1, s_istore_n2, s_istore_n3, s_lstore, s_lstore_n0, s_lstore_n1, s_lstore_n2, s_lstore_n3, s_fstore, s_fstore_n0, s_fstore_n1, s_fstore_n2, s_fstore_n3, s_dstore, s_dstore_n0, s_dstore_n1, s_dstore_n2, s_dstore_n3, s_astore, s_astore_n0, s_astore_n1, s_astore_n2, s_astore_n3, s_astoreN_n, s_iinc, s_if_eq, s_if_lt, s_if_ge, s_if_gt, s_if_le, s_if_ne, s_ic_eq, s_ic_lt, s_ic_ge, s_ic_gt, s_ic_le, s_ic_ne, s_ifnn_r, s_ifnn_n, s_goto, s_nop, s_tab, s_getfield, s_putfield, s_anewarray, s_newarray, s_iaload, s_baload, s_caload, s_laload, s_daload, s_aaload, s_iastore, s_bastore, s_castore, s_lastore, s_dastore, s_aastore, s_arraylength, s_lreturn, s_freturn, s_dreturn, s_areturn, s_return, s_new, s_thr, ld_Z, ld_S, kl_Z, pd_0, pd_c, pd_n, ag_i, ag_r, ag_l, ag_n, st_Z, st_On, st_Oi, st_Or, st_Ol, st_S, s2_eq, mk_t, mk_f, mk_n, cl_v, cl_n, cl_if, vl_0, vl_1, vl_2, cv_i, cv_l, cv_d, cv_f, rf_s, qW_n, qW_i, qW_l, qW_r, qMem, x_get, x_putI, x_putL, x_ldL, x_ldI, x_ldA, x_stL, x_stI, x_isO, MK_1, MK_21, List.set_cons_zero, List.set_cons_succ, List.getElem?_cons_zero, List.getElem?_cons_succ, Option.map_some, List.tail_cons, i64_32, Nat.zero_add, Nat.reduceAdd, Nat.reduceLeDiff, Nat.le_refl, if_true, if_false, ite_true, ite_false, reduceIte, lnO, rfO, fn_0, f_0_0, f_0_1, f_0_2, f_0_3, f_0_4, f_0_5, f_0_6, f_0_7, f_0_8, f_0_9, f_0_10, f_0_11, f_0_12, f_0_13, f_0_14, fn_1, f_1_0, f_1_1, f_1_2, f_1_3, f_1_4, fn_2, f_2_0, f_2_1, f_2_2, f_2_3, f_2_4, f_2_5, fn_3, f_3_0, f_3_1, f_3_2, f_3_3, fn_4, f_4_0, f_4_1, f_4_2, f_4_3, f_4_4, f_4_5, fn_5, f_5_0, f_5_1, f_5_2, fn_6, f_6_0, f_6_1, f_6_2, fn_7, f_7_0, f_7_1, f_7_2, f_7_3, f_7_4, fn_8, f_8_0, f_8_1, f_8_2, f_8_3, f_8_4, f_8_5, f_8_6, f_8_7, fn_9, f_9_0, f_9_1, f_9_2, f_9_3, f_9_4, f_9_5, fn_10, f_10_0, f_10_1, f_10_2, f_10_3, f_10_4, f_10_5, f_10_6, f_10_7, f_10_8, f_10_9, f_10_10, f_10_11, f_10_12, f_10_13, f_10_14, f_10_15, f_10_16, f_10_17, f_10_18, f_10_19, f_10_20, f_10_21, f_10_22, f_10_23, Nat.reduceLT, cv_t, x_ld3, x_ld2, x_st3, x_st2, rm_g2, rm_g3, rm_g4, rm_g5, rm_g6, rm_g7, rm_s2, rm_s3, rm_s4, rm_s5, rm_s6, rm_s7, rm_t, c153, g, l1, h0, g2]
theorem t152_n {f : Nat → Option Nat} {q : Nat} (hE : EL y X) (hs : y (X + 464) = some (.inr (.inr (10, 2, f)))) (hX : X + 465 ≤ n) (hq : q ≤ 1) (hf : f q = none) (hC : CtX (rd μ (X + 1))) : ∃ y1 μ1, qR PG G (qEntry PG 152 [.ref X, .int (nI q)] (MK y μ n s)) = some (.inl (some (.int (rd μ (X + 1) 6).toInt32)), MK y1 (wr μ1 n (kCpy (rd μ1 n) (rd μ (X + 1)))) (n + 41) (s + 436)) ∧ (∀ a, a < n → μ1 a = μ a) ∧ (∀ a, a < n → a ≠ X + 464 → y1 a = y a) ∧ y1 (X + 464) = some (.inr (.inr (10, 2, va_up f q (some n)))) ∧ BL y1 n := by
  obtain ⟨y2, μ2, e2, f2, b2, m2, z2⟩ := t8 (G := G) (b := n) (y := yU y n (.inl (0, bo0))) (μ := stc μ n (fun _ => 0)) (s := s + 15) yU_eq
  have fy : ∀ a, a < n → y2 a = y a := fun a ha => by rw [(f2 a ha).1, yU_ne (by omega)]
  have fm : ∀ a, a < n → μ2 a = μ a := fun a ha => by rw [(f2 a ha).2, stc_ne (by omega)]
  have yy : ∀ a, a < n → a ≠ X + 464 → yU y2 (X + 464) (.inr (.inr (10, 2, va_up f q (some n)))) a = y a := fun a h1 h2 => by rw [yU_ne h2, fy a h1]
  have hE2 : EL (yU y2 (X + 464) (.inr (.inr (10, 2, va_up f q (some n))))) X := by
    obtain ⟨h0, h1, h2, h3⟩ := hE
    exact ⟨by rw [yy _ (by omega) (by omega)]; exact h0, h1.of fun a h1 h2 => yy a (by omega) (by omega), h2.of fun a h1 h2 => yy a (by omega) (by omega), h3.of fun a h1 h2 => yy a (by omega) (by omega)⟩
  have hB2 : BL (yU y2 (X + 464) (.inr (.inr (10, 2, va_up f q (some n))))) n := b2.of fun a h1 h2 => yU_ne (by omega)
  have er : rd μ2 (X + 1) = rd μ (X + 1) := by
    funext i
    have := bkInv_lt i
    show μ2 (X + 1 + (bkInv i).1) (bkInv i).2 = μ (X + 1 + (bkInv i).1) (bkInv i).2
    rw [fm _ (by omega)]
  have g2 := t152_1 (G := G) (y := yU y2 (X + 464) (.inr (.inr (10, 2, va_up f q (some n))))) (μ := μ2) (n := n + 41) (s := s + 15 + 421) (f := va_up f q (some n)) (q := q) (B := n) hE2 yU_eq hq (if_pos rfl) hB2 (by omega) (by rw [er]; exact hC)
  rw [er] at g2
  refine ⟨_, μ2, ?_, fm, yy, yU_eq, hB2⟩
  obtain ⟨h0, h1, -⟩ := el_o hE
  have l1 := g_ldA (μ := μ) (n := n) (s := s) hs (ixok_n (i := q) (by omega) (by omega))
  rw [nI_clamp (by omega), hf] at l1
  dsimp only [va_rf] at l1
  have g := t153 (G := G) (y := y) (μ := μ) (n := n) (s := s) (x := nI q)
  rw [if_pos (s1 hq)] at g
  have g3 := aR (a := X + 464) (t := 10) (len := 2) (v := n) (i := nI q) (f := f) (y := y2) (μ := μ2) (n := n + 41) (s := s + 15 + 421) (by rw [fy _ (by omega)]; exact hs) (by decide) (ixok_n (by omega) (by decide)) (isO (fds := shF 0 n) b2.1)
  rw [nI_clamp (by omega)] at g3
  rw [show s + 436 = s + 15 + 421 from rfl]
  simp -implicitDefEqProofs only [e152, K152_0, j152_1, s_iadd, s_isub, s_imul, s_ineg, s_iand, s_ior, s_ixor, s_ishl, s_ishr, s_iushr, s_i2l, s_l2i, s_i2b, s_i2c, s_ladd, s_lsub, s_lmul, s_lneg, s_land, s_lor, s_lshl, s_lshr, s_lushr, s_lcmp, s_l2d, s_l2f, s_i2d, s_i2f, s_idiv, s_ldiv, s_irem, s_lrem, s_dcmp, s_fcmp, s_ddiv, s_fdiv, s_f2d, s_dup_i, s_dup_r, s_dup2_l, s_dup2_ir, s_pop, s_iconst, s_bipush, s_sipush, s_lconst, s_fconst, s_dconst, s_ldc, s_ldc_w, s_ldc2_w, s_iload, s_iload_n0, s_iload_n1, s_iload_n2, s_iload_n3, s_lload, s_lload_n0, s_lload_n1, s_lload_n2, s_lload_n3, s_fload, s_fload_n0, s_fload_n1, s_fload_n2, s_fload_n3, s_dload, s_dload_n0, s_dload_n1, s_dload_n2, s_dload_n3, s_aload, s_aload_n0, s_aload_n1, s_aload_n2, s_aload_n3, s_istore, s_istore_n0, s_istore_n1, s_istore_n2, s_istore_n3, s_lstore, s_lstore_n0, s_lstore_n1, s_lstore_n2, s_lstore_n3, s_fstore, s_fstore_n0, s_fstore_n1, s_fstore_n2, s_fstore_n3, s_dstore, s_dstore_n0, s_dstore_n1, s_dstore_n2, s_dstore_n3, s_astore, s_astore_n0, s_astore_n1, s_astore_n2, s_astore_n3, s_astoreN_n, s_iinc, s_if_eq, s_if_lt, s_if_ge, s_if_gt, s_if_le, s_if_ne, s_ic_eq, s_ic_lt, s_ic_ge, s_ic_gt, s_ic_le, s_ic_ne, s_ifnn_r, s_ifnn_n, s_goto, s_nop, s_tab, s_getfield, s_putfield, s_anewarray, s_newarray, s_iaload, s_baload, s_caload, s_laload, s_daload, s_aaload, s_iastore, s_bastore, s_castore, s_lastore, s_dastore, s_aastore, s_arraylength, s_lreturn, s_freturn, s_dreturn, s_areturn, s_return, s_new, s_thr, ld_Z, ld_S, kl_Z, pd_0, pd_c, pd_n, ag_i, ag_r, ag_l, ag_n, st_Z, st_On, st_Oi, st_Or, st_Ol, st_S, s2_eq, mk_t, mk_f, mk_n, cl_v, cl_n, cl_if, vl_0, vl_1, vl_2, cv_i, cv_l, cv_d, cv_f, rf_s, qW_n, qW_i, qW_l, qW_r, qMem, x_get, x_putI, x_putL, x_ldL, x_ldI, x_ldA, x_stL, x_stI, x_isO, MK_1, MK_21, List.set_cons_zero, List.set_cons_succ, List.getElem?_cons_zero, List.getElem?_cons_succ, Option.map_some, List.tail_cons, i64_32, Nat.zero_add, Nat.reduceAdd, Nat.reduceLeDiff, Nat.le_refl, if_true, if_false, ite_true, ite_false, reduceIte, lnO, rfO, fn_0, f_0_0, f_0_1, f_0_2, f_0_3, f_0_4, f_0_5, f_0_6, f_0_7, f_0_8, f_0_9, f_0_10, f_0_11, f_0_12, f_0_13, f_0_14, fn_1, f_1_0, f_1_1, f_1_2, f_1_3, f_1_4, fn_2, f_2_0, f_2_1, f_2_2, f_2_3, f_2_4, f_2_5, fn_3, f_3_0, f_3_1, f_3_2, f_3_3, fn_4, f_4_0, f_4_1, f_4_2, f_4_3, f_4_4, f_4_5, fn_5, f_5_0, f_5_1, f_5_2, fn_6, f_6_0, f_6_1, f_6_2, fn_7, f_7_0, f_7_1, f_7_2, f_7_3, f_7_4, fn_8, f_8_0, f_8_1, f_8_2, f_8_3, f_8_4, f_8_5, f_8_6, f_8_7, fn_9, f_9_0, f_9_1, f_9_2, f_9_3, f_9_4, f_9_5, fn_10, f_10_0, f_10_1, f_10_2, f_10_3, f_10_4, f_10_5, f_10_6, f_10_7, f_10_8, f_10_9, f_10_10, f_10_11, f_10_12, f_10_13, f_10_14, f_10_15, f_10_16, f_10_17, f_10_18, f_10_19, f_10_20, f_10_21, f_10_22, f_10_23, Nat.reduceLT, cv_t, x_ld3, x_ld2, x_st3, x_st2, rm_g2, rm_g3, rm_g4, rm_g5, rm_g6, rm_g7, rm_s2, rm_s3, rm_s4, rm_s5, rm_s6, rm_s7, rm_t, c153, c8, g, l1, h0, g2, g3, e2, nw0]
theorem t154_0 {f : Nat → Option Nat} {q : Nat} (hE : EL y X) (hs : y (X + 464) = some (.inr (.inr (10, 2, f)))) (hq : q ≤ 1) (hf : f q = none) : qR PG G (qEntry PG 154 [.ref X, .int (nI q)] (MK y μ n s)) = some (.inl (some (.int (-1))), MK y μ n s) := by
  obtain ⟨h0, h1, -⟩ := el_o hE
  have l1 := g_ldA (μ := μ) (n := n) (s := s) hs (ixok_n (i := q) (by omega) (by omega))
  rw [nI_clamp (by omega), hf] at l1
  dsimp only [va_rf] at l1
  have g := t153 (G := G) (y := y) (μ := μ) (n := n) (s := s) (x := nI q)
  rw [if_pos (s1 hq)] at g
  simp -implicitDefEqProofs only [e154, K154_0, j154_1, s_iadd, s_isub, s_imul, s_ineg, s_iand, s_ior, s_ixor, s_ishl, s_ishr, s_iushr, s_i2l, s_l2i, s_i2b, s_i2c, s_ladd, s_lsub, s_lmul, s_lneg, s_land, s_lor, s_lshl, s_lshr, s_lushr, s_lcmp, s_l2d, s_l2f, s_i2d, s_i2f, s_idiv, s_ldiv, s_irem, s_lrem, s_dcmp, s_fcmp, s_ddiv, s_fdiv, s_f2d, s_dup_i, s_dup_r, s_dup2_l, s_dup2_ir, s_pop, s_iconst, s_bipush, s_sipush, s_lconst, s_fconst, s_dconst, s_ldc, s_ldc_w, s_ldc2_w, s_iload, s_iload_n0, s_iload_n1, s_iload_n2, s_iload_n3, s_lload, s_lload_n0, s_lload_n1, s_lload_n2, s_lload_n3, s_fload, s_fload_n0, s_fload_n1, s_fload_n2, s_fload_n3, s_dload, s_dload_n0, s_dload_n1, s_dload_n2, s_dload_n3, s_aload, s_aload_n0, s_aload_n1, s_aload_n2, s_aload_n3, s_istore, s_istore_n0, s_istore_n1, s_istore_n2, s_istore_n3, s_lstore, s_lstore_n0, s_lstore_n1, s_lstore_n2, s_lstore_n3, s_fstore, s_fstore_n0, s_fstore_n1, s_fstore_n2, s_fstore_n3, s_dstore, s_dstore_n0, s_dstore_n1, s_dstore_n2, s_dstore_n3, s_astore, s_astore_n0, s_astore_n1, s_astore_n2, s_astore_n3, s_astoreN_n, s_iinc, s_if_eq, s_if_lt, s_if_ge, s_if_gt, s_if_le, s_if_ne, s_ic_eq, s_ic_lt, s_ic_ge, s_ic_gt, s_ic_le, s_ic_ne, s_ifnn_r, s_ifnn_n, s_goto, s_nop, s_tab, s_getfield, s_putfield, s_anewarray, s_newarray, s_iaload, s_baload, s_caload, s_laload, s_daload, s_aaload, s_iastore, s_bastore, s_castore, s_lastore, s_dastore, s_aastore, s_arraylength, s_lreturn, s_freturn, s_dreturn, s_areturn, s_return, s_new, s_thr, ld_Z, ld_S, kl_Z, pd_0, pd_c, pd_n, ag_i, ag_r, ag_l, ag_n, st_Z, st_On, st_Oi, st_Or, st_Ol, st_S, s2_eq, mk_t, mk_f, mk_n, cl_v, cl_n, cl_if, vl_0, vl_1, vl_2, cv_i, cv_l, cv_d, cv_f, rf_s, qW_n, qW_i, qW_l, qW_r, qMem, x_get, x_putI, x_putL, x_ldL, x_ldI, x_ldA, x_stL, x_stI, x_isO, MK_1, MK_21, List.set_cons_zero, List.set_cons_succ, List.getElem?_cons_zero, List.getElem?_cons_succ, Option.map_some, List.tail_cons, i64_32, Nat.zero_add, Nat.reduceAdd, Nat.reduceLeDiff, Nat.le_refl, if_true, if_false, ite_true, ite_false, reduceIte, lnO, rfO, fn_0, f_0_0, f_0_1, f_0_2, f_0_3, f_0_4, f_0_5, f_0_6, f_0_7, f_0_8, f_0_9, f_0_10, f_0_11, f_0_12, f_0_13, f_0_14, fn_1, f_1_0, f_1_1, f_1_2, f_1_3, f_1_4, fn_2, f_2_0, f_2_1, f_2_2, f_2_3, f_2_4, f_2_5, fn_3, f_3_0, f_3_1, f_3_2, f_3_3, fn_4, f_4_0, f_4_1, f_4_2, f_4_3, f_4_4, f_4_5, fn_5, f_5_0, f_5_1, f_5_2, fn_6, f_6_0, f_6_1, f_6_2, fn_7, f_7_0, f_7_1, f_7_2, f_7_3, f_7_4, fn_8, f_8_0, f_8_1, f_8_2, f_8_3, f_8_4, f_8_5, f_8_6, f_8_7, fn_9, f_9_0, f_9_1, f_9_2, f_9_3, f_9_4, f_9_5, fn_10, f_10_0, f_10_1, f_10_2, f_10_3, f_10_4, f_10_5, f_10_6, f_10_7, f_10_8, f_10_9, f_10_10, f_10_11, f_10_12, f_10_13, f_10_14, f_10_15, f_10_16, f_10_17, f_10_18, f_10_19, f_10_20, f_10_21, f_10_22, f_10_23, Nat.reduceLT, cv_t, x_ld3, x_ld2, x_st3, x_st2, rm_g2, rm_g3, rm_g4, rm_g5, rm_g6, rm_g7, rm_s2, rm_s3, rm_s4, rm_s5, rm_s6, rm_s7, rm_t, r154, c153, g, l1, h0]
  rfl
theorem t154_s {f : Nat → Option Nat} {q B : Nat} (hE : EL y X) (hs : y (X + 464) = some (.inr (.inr (10, 2, f)))) (hq : q ≤ 1) (hf : f q = some B) (hB : BL y B) (hd : X + 465 ≤ B) (hC : CtX (rd μ B)) : qR PG G (qEntry PG 154 [.ref X, .int (nI q)] (MK y μ n s)) = some (.inl (some (.int (kCpy (rd μ (X + 1)) (rd μ B) 6).toInt32)), MK y (stc (wr μ (X + 1) (kCpy (rd μ (X + 1)) (rd μ B))) (X + 85) (sv (μ (X + 85)) 1 0)) n s) := by
  obtain ⟨h0, h1, -, h3⟩ := el_o hE
  have hb0 := hB.1
  have l1 := g_ldA (μ := μ) (n := n) (s := s) hs (ixok_n (i := q) (by omega) (by omega))
  rw [nI_clamp (by omega), hf] at l1
  dsimp only [va_rf] at l1
  have g := t153 (G := G) (y := y) (μ := μ) (n := n) (s := s) (x := nI q)
  rw [if_pos (s1 hq)] at g
  have g2 := t46n (G := G) (μ := μ) (n := n) (s := s) (C := rd μ (X + 1)) hE.2.1 hB (by omega) hC
  rw [wr_rd] at g2
  have g3 := t51 (G := G) (μ := wr μ (X + 1) (kCpy (rd μ (X + 1)) (rd μ B))) (n := n) (s := s) hE.2.2.2
  rw [wr_out (a := X + 85) (by omega)] at g3
  have e1 : stc (wr μ (X + 1) (kCpy (rd μ (X + 1)) (rd μ B))) (X + 85) (sv (μ (X + 85)) 1 0) (X + 1) 0 = kCpy (rd μ (X + 1)) (rd μ B) 6 := by
    rw [stc_ne (by omega)]
    exact wr_get (o := 0) (k := 0) (i := 6) (by decide)
  simp -implicitDefEqProofs only [e154, K154_0, j154_1, K154_1, s_iadd, s_isub, s_imul, s_ineg, s_iand, s_ior, s_ixor, s_ishl, s_ishr, s_iushr, s_i2l, s_l2i, s_i2b, s_i2c, s_ladd, s_lsub, s_lmul, s_lneg, s_land, s_lor, s_lshl, s_lshr, s_lushr, s_lcmp, s_l2d, s_l2f, s_i2d, s_i2f, s_idiv, s_ldiv, s_irem, s_lrem, s_dcmp, s_fcmp, s_ddiv, s_fdiv, s_f2d, s_dup_i, s_dup_r, s_dup2_l, s_dup2_ir, s_pop, s_iconst, s_bipush, s_sipush, s_lconst, s_fconst, s_dconst, s_ldc, s_ldc_w, s_ldc2_w, s_iload, s_iload_n0, s_iload_n1, s_iload_n2, s_iload_n3, s_lload, s_lload_n0, s_lload_n1, s_lload_n2, s_lload_n3, s_fload, s_fload_n0, s_fload_n1, s_fload_n2, s_fload_n3, s_dload, s_dload_n0, s_dload_n1, s_dload_n2, s_dload_n3, s_aload, s_aload_n0, s_aload_n1, s_aload_n2, s_aload_n3, s_istore, s_istore_n0, s_istore_n1, s_istore_n2, s_istore_n3, s_lstore, s_lstore_n0, s_lstore_n1, s_lstore_n2, s_lstore_n3, s_fstore, s_fstore_n0, s_fstore_n1, s_fstore_n2, s_fstore_n3, s_dstore, s_dstore_n0, s_dstore_n1, s_dstore_n2, s_dstore_n3, s_astore, s_astore_n0, s_astore_n1, s_astore_n2, s_astore_n3, s_astoreN_n, s_iinc, s_if_eq, s_if_lt, s_if_ge, s_if_gt, s_if_le, s_if_ne, s_ic_eq, s_ic_lt, s_ic_ge, s_ic_gt, s_ic_le, s_ic_ne, s_ifnn_r, s_ifnn_n, s_goto, s_nop, s_tab, s_getfield, s_putfield, s_anewarray, s_newarray, s_iaload, s_baload, s_caload, s_laload, s_daload, s_aaload, s_iastore, s_bastore, s_castore, s_lastore, s_dastore, s_aastore, s_arraylength, s_lreturn, s_freturn, s_dreturn, s_areturn, s_return, s_new, s_thr, ld_Z, ld_S, kl_Z, pd_0, pd_c, pd_n, ag_i, ag_r, ag_l, ag_n, st_Z, st_On, st_Oi, st_Or, st_Ol, st_S, s2_eq, mk_t, mk_f, mk_n, cl_v, cl_n, cl_if, vl_0, vl_1, vl_2, cv_i, cv_l, cv_d, cv_f, rf_s, qW_n, qW_i, qW_l, qW_r, qMem, x_get, x_putI, x_putL, x_ldL, x_ldI, x_ldA, x_stL, x_stI, x_isO, MK_1, MK_21, List.set_cons_zero, List.set_cons_succ, List.getElem?_cons_zero, List.getElem?_cons_succ, Option.map_some, List.tail_cons, i64_32, Nat.zero_add, Nat.reduceAdd, Nat.reduceLeDiff, Nat.le_refl, if_true, if_false, ite_true, ite_false, reduceIte, lnO, rfO, fn_0, f_0_0, f_0_1, f_0_2, f_0_3, f_0_4, f_0_5, f_0_6, f_0_7, f_0_8, f_0_9, f_0_10, f_0_11, f_0_12, f_0_13, f_0_14, fn_1, f_1_0, f_1_1, f_1_2, f_1_3, f_1_4, fn_2, f_2_0, f_2_1, f_2_2, f_2_3, f_2_4, f_2_5, fn_3, f_3_0, f_3_1, f_3_2, f_3_3, fn_4, f_4_0, f_4_1, f_4_2, f_4_3, f_4_4, f_4_5, fn_5, f_5_0, f_5_1, f_5_2, fn_6, f_6_0, f_6_1, f_6_2, fn_7, f_7_0, f_7_1, f_7_2, f_7_3, f_7_4, fn_8, f_8_0, f_8_1, f_8_2, f_8_3, f_8_4, f_8_5, f_8_6, f_8_7, fn_9, f_9_0, f_9_1, f_9_2, f_9_3, f_9_4, f_9_5, fn_10, f_10_0, f_10_1, f_10_2, f_10_3, f_10_4, f_10_5, f_10_6, f_10_7, f_10_8, f_10_9, f_10_10, f_10_11, f_10_12, f_10_13, f_10_14, f_10_15, f_10_16, f_10_17, f_10_18, f_10_19, f_10_20, f_10_21, f_10_22, f_10_23, Nat.reduceLT, cv_t, x_ld3, x_ld2, x_st3, x_st2, rm_g2, rm_g3, rm_g4, rm_g5, rm_g6, rm_g7, rm_s2, rm_s3, rm_s4, rm_s5, rm_s6, rm_s7, rm_t, r154, c153, c46, c51, g, l1, h0, h1, h3, g2, g3, e1]
theorem Sn.two (h : Sn y X M k μ n) {q : Nat} (hq : q ≤ 1) : (μ (M + 6) q).toInt32 = 0 ∨ (μ (M + 6) q).toInt32 = 1 := by
  obtain ⟨f, -, h2, -⟩ := h
  rcases h2 q hq with ⟨-, a⟩ | ⟨B, -, -, -, -, a, -⟩
  · exact Or.inl a
  · exact Or.inr a
theorem SH.of (h : SH y X M) (hl : ∀ a, a < M + 15 → a ≠ X + 464 → y' a = y a) : SH y' X M := by
  obtain ⟨⟨h0, h1, h2, h3⟩, hF, hD, hM, hA, hX⟩ := h
  obtain ⟨a2, a3, a4, a5, a6, a7, a8, a9, a10, a11, a12, a13, a14⟩ := hA
  refine ⟨⟨by rw [hl _ (by omega) (by omega)]; exact h0, h1.of fun a h1 h2 => hl a (by omega) (by omega), h2.of fun a h1 h2 => hl a (by omega) (by omega), h3.of fun a h1 h2 => hl a (by omega) (by omega)⟩, hF.of fun a h1 h2 => hl a (by omega) (by omega), hD.of fun a h1 h2 => hl a (by omega) (by omega), ⟨by rw [hl _ (by omega) (by omega)]; exact hM.1, by rw [hl _ (by omega) (by omega)]; exact hM.2⟩, ?_, hX⟩
  exact ⟨by rw [hl _ (by omega) (by omega)]; exact a2, by rw [hl _ (by omega) (by omega)]; exact a3, by rw [hl _ (by omega) (by omega)]; exact a4, by rw [hl _ (by omega) (by omega)]; exact a5, by rw [hl _ (by omega) (by omega)]; exact a6, by rw [hl _ (by omega) (by omega)]; exact a7, by rw [hl _ (by omega) (by omega)]; exact a8, by rw [hl _ (by omega) (by omega)]; exact a9, by rw [hl _ (by omega) (by omega)]; exact a10, by rw [hl _ (by omega) (by omega)]; exact a11, by rw [hl _ (by omega) (by omega)]; exact a12, by rw [hl _ (by omega) (by omega)]; exact a13, by rw [hl _ (by omega) (by omega)]; exact a14⟩
theorem TX.sh (h : TX G y μ X) (hy : ∀ a, a < X → y' a = y a) (hm : ∀ a, a < X → ν a = μ a) : TX G y' ν X := fun k hk => ⟨(h k hk).1, fun n s => by
  have := (h k hk).2 n s
  unfold qStr at this ⊢
  rw [MK_at] at this ⊢
  rw [hy _ (h k hk).1, hm _ (h k hk).1]
  exact this⟩
/-- the same below, shapes and all -/
theorem Iv.sh (h : Iv G y X M k μ) (hXM : X + 465 ≤ M) (hy : ∀ a, a < X → y' a = y a) (hl : ∀ a, a < X + 415 → ν a = μ a) (h1 : ν (M + 1) = μ (M + 1)) (h4 : ν (M + 4) = μ (M + 4)) (h7 : ν (M + 7) = μ (M + 7)) (hm : ∀ i, i ≠ 7 → ν M i = μ M i) : Iv G y' X M k ν := by
  have q := h.same hXM (fun a h1 _ => hl a h1) h1 h4 h7 hm
  exact ⟨q.1, q.2.1, q.2.2.1, q.2.2.2.sh hy fun _ _ => rfl⟩
theorem Iv.ctx (h : Iv G y X M k μ) : CtX (rd μ (X + 1)) := h.1.ctx
/-- a snapshot kept, by the model -/
theorem sv_md {q B : Nat} {f : Nat → Option Nat} {μ1 : qMu} {n1 : Nat} {D : Row} (hS : SH y X M) (hk : k < 900) (hI : Iv G y X M k ν) (hq : q ≤ 1) (hs : y (X + 464) = some (.inr (.inr (10, 2, f)))) (hf : f q = some B) (hb1 : M + 17 ≤ B) (hb2 : B + 41 ≤ n1) (hb3 : BL y B) (hP : PR k (rd ν B) D) (hD : D = ν (M + 1)) (hr : ∀ r, r ≤ 1 → r ≠ q → (f r = none ∧ (ν (M + 6) r).toInt32 = 0) ∨ ∃ C, f r = some C ∧ M + 17 ≤ C ∧ C + 41 ≤ n1 ∧ BL y C ∧ (ν (M + 6) r).toInt32 = 1 ∧ PR k (rd ν C) (fun i => ν (M + 5) (391 * r + i))) (hds : ∀ q r B C, q ≤ 1 → r ≤ 1 → q ≠ r → f q = some B → f r = some C → B + 41 ≤ C ∨ C + 41 ≤ B) (hn : M + 17 ≤ n1) (hL : LO y M) (hx : Lx M ν μ1) : Wd G X M (k + 1) y (stc (stc (stc (stc μ1 M (sv (μ1 M) 7 0)) (M + 5) (mCp D 0 (μ1 (M + 5)) q 391)) (M + 6) (sv (μ1 (M + 6)) q 1)) (M + 1) D) n1 := by
  have hX := hS.2.2.2.2.2
  have hb : ∀ C, M + 17 ≤ C → rd (stc (stc (stc (stc μ1 M (sv (μ1 M) 7 0)) (M + 5) (mCp D 0 (μ1 (M + 5)) q 391)) (M + 6) (sv (μ1 (M + 6)) q 1)) (M + 1) D) C = rd ν C := fun C hC => by
    rw [rd_stc_out (by omega), rd_stc_out (by omega), rd_stc_out (by omega), rd_stc_out (by omega)]
    funext i
    show μ1 (C + (bkInv i).1) (bkInv i).2 = ν (C + (bkInv i).1) (bkInv i).2
    rw [hx _ (by omega) (by omega)]
  refine ⟨hS, ((hI.sh (y' := y) (ν := stc (stc (stc (stc μ1 M (sv (μ1 M) 7 0)) (M + 5) (mCp D 0 (μ1 (M + 5)) q 391)) (M + 6) (sv (μ1 (M + 6)) q 1)) (M + 1) D) hX (fun _ _ => rfl) (fun a ha => ?_) ?_ ?_ ?_ fun i hi => ?_).mono (Nat.le_succ k) (by omega)), ⟨f, hs, fun r hr1 => ?_, hds⟩, hn, hL⟩
  · rw [stc_ne (by omega), stc_ne (by omega), stc_ne (by omega), stc_ne (by omega), hx _ (by omega) (by omega)]
  · rw [stc_eq, hD]
  · rw [stc_ne (by omega), stc_ne (by omega), stc_ne (by omega), stc_ne (by omega), hx _ (by omega) (by omega)]
  · rw [stc_ne (by omega), stc_ne (by omega), stc_ne (by omega), stc_ne (by omega), hx _ (by omega) (by omega)]
  · rw [stc_ne (by omega), stc_ne (by omega), stc_ne (by omega), stc_eq, sv_get, if_neg hi, hx.eqM]
  · have e6 : stc (stc (stc (stc μ1 M (sv (μ1 M) 7 0)) (M + 5) (mCp D 0 (μ1 (M + 5)) q 391)) (M + 6) (sv (μ1 (M + 6)) q 1)) (M + 1) D (M + 6) = sv (ν (M + 6)) q 1 := by
      rw [stc_ne (by omega), stc_eq, hx (M + 6) (by omega) (by omega)]
    have e5 : stc (stc (stc (stc μ1 M (sv (μ1 M) 7 0)) (M + 5) (mCp D 0 (μ1 (M + 5)) q 391)) (M + 6) (sv (μ1 (M + 6)) q 1)) (M + 1) D (M + 5) = mCp D 0 (ν (M + 5)) q 391 := by
      rw [stc_ne (by omega), stc_ne (by omega), stc_eq, hx (M + 5) (by omega) (by omega)]
    by_cases hrq : r = q
    · subst hrq
      refine Or.inr ⟨B, hf, hb1, hb2, hb3, ?_, ?_⟩
      · rw [e6, sv_get, if_pos rfl]; rfl
      · rw [hb B hb1, e5]
        refine (hP.mono (Nat.le_succ k) (by omega)).dx fun i hi => ?_
        rw [mCp_get, if_pos (by omega)]
        congr 1
        omega
    · rcases hr r hr1 hrq with ⟨a1, a2⟩ | ⟨C, c1, c2, c3, c4, c5, c6⟩
      · exact Or.inl ⟨a1, by rw [e6, sv_get, if_neg hrq]; exact a2⟩
      · refine Or.inr ⟨C, c1, c2, c3, c4, by rw [e6, sv_get, if_neg hrq]; exact c5, ?_⟩
        rw [hb C c2, e5]
        refine (c6.mono (Nat.le_succ k) (by omega)).dx fun i hi => ?_
        rw [mCp_get, if_neg (by omega)]
theorem ow_n {v' : Value} (hk : k < 900) (hW : Wd G X M k y μ n) (tm : ∀ (μ1 : qMu) n1 s1, qR PG G (qEntry PG mm (.ref M :: ma) (MK y (stc μ1 (M + 1) (μ1 (M + 1))) n1 s1)) = some (.inl (some v'), MK y (MT μ1 M (μ1 (M + 1)) 1) n1 s1)) : ∀ μ1 n1 s1, n ≤ n1 → Lx M μ μ1 → ∃ μ2, Wd G X M (k + 1) y μ2 n1 ∧ Lw M μ1 μ2 ∧ qR PG G (qEntry PG mm (.ref M :: ma) (MK y μ1 n1 s1)) = some (.inl (some v'), MK y μ2 n1 s1) ∧ μ2 M 7 = cdA 101 := fun μ1 n1 s1 h1 hx1 => by
  obtain ⟨hS, hI, hSn, hn, hL⟩ := hW
  have hX := hS.2.2.2.2.2
  refine ⟨MT μ1 M (μ1 (M + 1)) 1, ⟨hS, ((hI.lx hX hx1).mt hX).mono (Nat.le_succ k) (by omega), hSn.of (fun a ha => ?_) h1 (Nat.le_succ k) (by omega), by omega, hL⟩, ⟨fx_mt _ (by omega), fx_mt _ (by omega)⟩, ?_, mt_7⟩
  · rw [fx_mt a (by omega), hx1 a (by omega) (by omega)]
  · have := tm μ1 n1 s1
    rwa [stc_self] at this
theorem op_152 : OpW G X M cdA 0 152 [.int x] 275 [.int x] := by
  intro k y μ n s hk hW
  have hW' := hW
  obtain ⟨hS, hI, hSn, hn, hL⟩ := hW'
  obtain ⟨hE, hF, hDL, hM, hMA, hX⟩ := hS
  by_cases hx : 0 ≤ x ∧ x ≤ 1
  case neg =>
    exact Or.inl ⟨101, .int 0, t152n hx, by decide, rfl, ow_n hk hW fun μ1 n1 s1 => t275n hM hx⟩
  obtain ⟨q, hq, rfl⟩ := kd_n (k := 1) (by decide) hx
  have hSn' := hSn
  obtain ⟨f, hs, h2, h3⟩ := hSn'
  have hP := hI.1
  have e6 : (rd μ (X + 1) 6).toInt32 = (μ (M + 1) 6).toInt32 := by
    obtain ⟨a, e, f, i, b, p, hJ, hA, -⟩ := hP
    rw [(hA.d6 hJ).1]
  rcases h2 q hq with ⟨a1, a2⟩ | ⟨B, b1, b2, b3, b4, b5, b6⟩
  · -- made now
    obtain ⟨y1, μ2, t1, t2, t3, t4, t5⟩ := t152_n (G := G) (μ := μ) (n := n) (s := s) hE hs (by omega) hq a1 hI.ctx
    rw [e6] at t1
    have fm : ∀ a, a < n → wr μ2 n (kCpy (rd μ2 n) (rd μ (X + 1))) a = μ a := fun a ha => by rw [wr_out (by omega), t2 a ha]
    have hS1 : SH y1 X M := SH.of ⟨hE, hF, hDL, hM, hMA, hX⟩ fun a h1 h2 => t3 a (by omega) h2
    have hL1 : LO y1 M := ⟨by rw [t3 _ (by omega) (by omega)]; exact hL.1, by rw [t3 _ (by omega) (by omega)]; exact hL.2⟩
    refine Or.inr ⟨_, y1, _, n + 41, s + 436, by omega, Nat.le_refl _, Nat.le_refl _, hL1, fun a ha => t3 a (by omega) (by omega), t1, ⟨fm _ (by omega), fm _ (by omega)⟩, rfl, fun μ1 n1 s1 h1 hx1 => ?_⟩
    have hI1 : Iv G y1 X M k (wr μ2 n (kCpy (rd μ2 n) (rd μ (X + 1)))) := hI.sh hX (fun a ha => t3 a (by omega) (by omega)) (fun a ha => fm a (by omega)) (fm _ (by omega)) (fm _ (by omega)) (fm _ (by omega)) (fun i _ => by rw [fm _ (by omega)])
    have tm := t275y (G := G) (y := y1) (μ := μ1) (D := μ (M + 1)) (n := n1) (s := s1) hS1.2.2.2.1 hS1.2.2.2.2.1 hq
    rw [hx1.self1 (fm _ (by omega)).symm] at tm
    refine ⟨_, sv_md (f := va_up f q (some n)) (B := n) (ν := wr μ2 n (kCpy (rd μ2 n) (rd μ (X + 1)))) hS1 hk hI1 hq t4 (if_pos rfl) hn h1 t5 ?_ (fm _ (by omega)).symm (fun r hr1 hrq => ?_) (fun q' r B C u1 u2 h3' h4 h5 => ?_) (by omega) hL1 hx1, ⟨?_, ?_⟩, tm, ?_⟩
    · exact (hP.cpy (Z := rd μ2 n)).vx fun i hi => rd_wr hi
    · have er : va_up f q (some n) r = f r := if_neg hrq
      rw [er]
      rcases h2 r hr1 with ⟨a1, a2⟩ | ⟨C, c1, c2, c3, c4, c5, c6⟩
      · exact Or.inl ⟨a1, by rw [fm _ (by omega)]; exact a2⟩
      · refine Or.inr ⟨C, c1, c2, by omega, c4.of fun a h1 h2 => t3 a (by omega) (by omega), by rw [fm _ (by omega)]; exact c5, ?_⟩
        have e1 : rd (wr μ2 n (kCpy (rd μ2 n) (rd μ (X + 1)))) C = rd μ C := by
          funext i
          have := bkInv_lt i
          show wr μ2 n (kCpy (rd μ2 n) (rd μ (X + 1))) (C + (bkInv i).1) (bkInv i).2 = μ (C + (bkInv i).1) (bkInv i).2
          rw [fm _ (by omega)]
        rw [e1, fm (M + 5) (by omega)]
        exact c6
    · unfold va_up at h4 h5
      by_cases g1 : q' = q
      · rw [if_pos g1] at h4
        rw [if_neg (by omega)] at h5
        rcases h2 r u2 with ⟨a1, -⟩ | ⟨C', c1, c2, c3, -⟩
        · rw [a1] at h5; cases h5
        · rw [c1] at h5
          cases h5
          cases h4
          right; omega
      · rw [if_neg g1] at h4
        by_cases g2 : r = q
        · rw [if_pos g2] at h5
          rcases h2 q' u1 with ⟨a1, -⟩ | ⟨C', c1, c2, c3, -⟩
          · rw [a1] at h4; cases h4
          · rw [c1] at h4
            cases h5
            cases h4
            left; omega
        · rw [if_neg g2] at h5
          exact h3 q' r B C u1 u2 h3' h4 h5
    · rw [stc_ne (by omega), stc_ne (by omega), stc_ne (by omega), stc_ne (by omega)]
    · rw [stc_ne (by omega), stc_ne (by omega), stc_ne (by omega), stc_ne (by omega)]
    · rw [stc_ne (by omega), stc_ne (by omega), stc_ne (by omega), stc_eq, sv_get, if_pos rfl]
  · -- kept anew
    have t1 := t152_s (G := G) (μ := μ) (n := n) (s := s) hE hs hq b1 b4 (by omega) hI.ctx
    rw [e6] at t1
    have fm : ∀ a, a < B ∨ B + 41 ≤ a → wr μ B (kCpy (rd μ B) (rd μ (X + 1))) a = μ a := fun a ha => wr_out (by omega)
    refine Or.inr ⟨_, y, _, n, s, Nat.le_refl _, by omega, by omega, hL, fun _ _ => rfl, t1, ⟨fm _ (by omega), fm _ (by omega)⟩, rfl, fun μ1 n1 s1 h1 hx1 => ?_⟩
    have hI1 : Iv G y X M k (wr μ B (kCpy (rd μ B) (rd μ (X + 1)))) := hI.sh hX (fun _ _ => rfl) (fun a ha => fm a (by omega)) (fm _ (by omega)) (fm _ (by omega)) (fm _ (by omega)) (fun i _ => by rw [fm _ (by omega)])
    have tm := t275y (G := G) (y := y) (μ := μ1) (D := μ (M + 1)) (n := n1) (s := s1) hM hMA hq
    rw [hx1.self1 (fm _ (by omega)).symm] at tm
    refine ⟨_, sv_md (f := f) (B := B) (ν := wr μ B (kCpy (rd μ B) (rd μ (X + 1)))) hW.1 hk hI1 hq hs b1 b2 (by omega) b4 ?_ (fm _ (by omega)).symm (fun r hr1 hrq => ?_) h3 (by omega) hL hx1, ⟨?_, ?_⟩, tm, ?_⟩
    · exact (hP.cpy (Z := rd μ B)).vx fun i hi => rd_wr hi
    · rcases h2 r hr1 with ⟨a1, a2⟩ | ⟨C, c1, c2, c3, c4, c5, c6⟩
      · exact Or.inl ⟨a1, by rw [fm _ (by omega)]; exact a2⟩
      · have hd := h3 q r B C hq hr1 (fun h => hrq h.symm) b1 c1
        refine Or.inr ⟨C, c1, c2, by omega, c4, by rw [fm _ (by omega)]; exact c5, ?_⟩
        rw [rd_wr_out (by omega), fm (M + 5) (by omega)]
        exact c6
    · rw [stc_ne (by omega), stc_ne (by omega), stc_ne (by omega), stc_ne (by omega)]
    · rw [stc_ne (by omega), stc_ne (by omega), stc_ne (by omega), stc_ne (by omega)]
    · rw [stc_ne (by omega), stc_ne (by omega), stc_ne (by omega), stc_eq, sv_get, if_pos rfl]
theorem op_154 : OpW G X M cdA 0 154 [.int x] 276 [.int x] := by
  intro k y μ n s hk hW
  have hW' := hW
  obtain ⟨hS, hI, hSn, hn, hL⟩ := hW'
  obtain ⟨hE, hF, hDL, hM, hMA, hX⟩ := hS
  by_cases hx : 0 ≤ x ∧ x ≤ 1
  case neg =>
    exact Or.inl ⟨101, .int 0, t154n hx, by decide, rfl, ow_n hk hW fun μ1 n1 s1 => t276n hM hx⟩
  obtain ⟨q, hq, rfl⟩ := kd_n (k := 1) (by decide) hx
  have hSn' := hSn
  obtain ⟨f, hs, h2, h3⟩ := hSn'
  rcases h2 q hq with ⟨a1, a2⟩ | ⟨B, b1, b2, b3, b4, b5, b6⟩
  · -- none kept
    refine Or.inr ⟨_, y, μ, n, s, Nat.le_refl _, by omega, by omega, hL, fun _ _ => rfl, t154_0 hE hs hq a1, ⟨rfl, rfl⟩, rfl, fun μ1 n1 s1 h1 hx1 => ?_⟩
    have e6 : (μ1 (M + 6) q).toInt32 = 0 := by rw [hx1 _ (by omega) (by omega)]; exact a2
    have tm := (t276y (G := G) (y := y) (μ := μ1) (D := μ1 (M + 1)) (n := n1) (s := s1) hM hMA hq (Or.inl e6)).trans (if_pos e6)
    rw [stc_self] at tm
    refine ⟨MT μ1 M (μ1 (M + 1)) 0, ⟨hW.1, ((hI.lx hX hx1).mt hX).mono (Nat.le_succ k) (by omega), hSn.of (fun a ha => ?_) h1 (Nat.le_succ k) (by omega), by omega, hL⟩, ⟨fx_mt _ (by omega), fx_mt _ (by omega)⟩, tm, mt_7⟩
    rw [fx_mt a (by omega), hx1 a (by omega) (by omega)]
  · -- back
    have t1 := t154_s (G := G) (μ := μ) (n := n) (s := s) hE hs hq b1 b4 (by omega) b6.ctx
    have hB := b6.cpy (Z := rd μ (X + 1))
    have hlo : ∀ a, (a < X + 1 ∨ X + 42 ≤ a) → a ≠ X + 85 → stc (wr μ (X + 1) (kCpy (rd μ (X + 1)) (rd μ B))) (X + 85) (sv (μ (X + 85)) 1 0) a = μ a := fun a h1 h2 => by
      rw [stc_ne h2, wr_out (by omega)]
    obtain ⟨hP, ⟨e0, c0, hH⟩, ⟨L, st, P, bg, t1', t2, t3, t4, t5, t6, t7, t8⟩, hTX⟩ := hI
    obtain ⟨ν, hν⟩ : ∃ ν, ν = stc (wr μ (X + 1) (kCpy (rd μ (X + 1)) (rd μ B))) (X + 85) (sv (μ (X + 85)) 1 0) := ⟨_, rfl⟩
    rw [← hν] at t1 hlo
    have hTX1 : TX G y ν X := hTX.low fun a ha => hlo a (by omega) (by omega)
    refine Or.inr ⟨_, y, ν, n, s, Nat.le_refl _, by omega, by omega, hL, fun _ _ => rfl, t1, ⟨hlo _ (by omega) (by omega), hlo _ (by omega) (by omega)⟩, rfl, fun μ1 n1 s1 h1 hx1 => ?_⟩
    have e6 : (μ1 (M + 6) q).toInt32 = 1 := by rw [hx1 _ (by omega) (by omega), hlo _ (by omega) (by omega)]; exact b5
    have tm := (t276y (G := G) (y := y) (μ := μ1) (D := μ1 (M + 1)) (n := n1) (s := s1) hM hMA hq (Or.inr e6)).trans (if_neg (by rw [e6]; decide))
    rw [stc_self] at tm
    have e5 : μ1 (M + 5) = μ (M + 5) := by rw [hx1 _ (by omega) (by omega), hlo _ (by omega) (by omega)]
    rw [e5] at tm
    have hR : R391 (mCp (μ (M + 5)) q (μ1 (M + 1)) 0 391) (fun i => μ (M + 5) (391 * q + i)) := fun i hi => by
      rw [mCp_get, if_pos (by omega)]
      congr 1
    have hB2 := hB.dx hR
    have ev : (kCpy (rd μ (X + 1)) (rd μ B) 6).toInt32 = (mCp (μ (M + 5)) q (μ1 (M + 1)) 0 391 6).toInt32 := by
      obtain ⟨a, e, f, i, b, p, hJ, hA, -⟩ := hB2
      rw [(hA.d6 hJ).1]
    rw [ev]
    have lo1 : ∀ a, (a < X + 1 ∨ X + 42 ≤ a) → a ≠ X + 85 → a ≠ M + 15 → a ≠ M + 16 → μ1 a = μ a := fun a h1 h2 h3 h4 => by rw [hx1 a h3 h4, hlo a h1 h2]
    refine ⟨_, ⟨hW.1, ⟨?_, ⟨e0, 0, ?_, ?_, fun j hj => absurd hj (Nat.not_lt_zero _)⟩, ⟨L, st, P, bg, t1', ?_, ?_, ?_, ?_, ?_, ?_, ?_⟩, ?_⟩, ?_, by omega, hL⟩, ⟨?_, ?_⟩, tm, ?_⟩
    · rw [rd_stc_out (by omega), rd_stc_out (by omega), stc_eq]
      have e1 : ∀ i, vix i → rd μ1 (X + 1) i = kCpy (rd μ (X + 1)) (rd μ B) i := fun i hi => by
        have := bkInv_lt i
        have e2 : rd μ1 (X + 1) i = rd ν (X + 1) i := by
          show μ1 (X + 1 + (bkInv i).1) (bkInv i).2 = ν (X + 1 + (bkInv i).1) (bkInv i).2
          rw [hx1 _ (by omega) (by omega)]
        rw [e2, hν, rd_stc_out (by omega)]
        exact rd_wr hi
      exact (hB2.vx e1).mono (Nat.le_succ k) (by omega)
    · unfold Hs
      rw [stc_ne (by omega), stc_ne (by omega), hx1 _ (by omega) (by omega), hν, stc_eq, sv_get, if_neg (by decide), sv_get, if_pos rfl]
      exact ⟨hH.1.1, hH.1.2.1, rfl, by omega⟩
    · rw [stc_ne (by omega), stc_eq, sv_get, if_pos rfl]; rfl
    · rw [stc_ne (by omega), stc_ne (by omega), lo1 _ (by omega) (by omega) (by omega) (by omega)]; exact t2
    · rw [stc_ne (by omega), stc_eq, sv_get, if_neg (by decide), sv_get, if_neg (by decide), lo1 _ (by omega) (by omega) (by omega) (by omega)]; exact t3
    · rw [stc_ne (by omega), stc_ne (by omega), stc_ne (by omega), stc_ne (by omega), lo1 _ (by omega) (by omega) (by omega) (by omega), lo1 _ (by omega) (by omega) (by omega) (by omega)]; exact t4
    · rw [stc_ne (by omega), stc_eq, sv_get, if_neg (by decide), sv_get, if_neg (by decide), lo1 _ (by omega) (by omega) (by omega) (by omega)]; exact t5
    · rw [stc_ne (by omega), stc_eq, sv_get, if_neg (by decide), sv_get, if_neg (by decide), lo1 _ (by omega) (by omega) (by omega) (by omega)]; exact t6
    · rw [stc_ne (by omega), stc_eq, sv_get, if_neg (by decide), sv_get, if_neg (by decide), lo1 _ (by omega) (by omega) (by omega) (by omega)]; exact t7
    · rw [stc_ne (by omega), stc_eq, sv_get, if_neg (by decide), sv_get, if_neg (by decide), lo1 _ (by omega) (by omega) (by omega) (by omega)]; exact t8
    · exact hTX1.low fun a ha => by rw [stc_ne (by omega), stc_ne (by omega), hx1 _ (by omega) (by omega)]
    · refine hSn.of (fun a ha => ?_) h1 (Nat.le_succ k) (by omega)
      rw [stc_ne (by omega), stc_ne (by omega), lo1 _ (by omega) (by omega) (by omega) (by omega)]
    · rw [stc_ne (by omega), stc_ne (by omega)]
    · rw [stc_ne (by omega), stc_ne (by omega)]
    · rw [stc_ne (by omega), stc_eq, sv_get, if_neg (by decide), sv_get, if_pos rfl]
end SNP
