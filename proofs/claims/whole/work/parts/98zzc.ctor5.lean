/-! ===== What is made new, 5: the object ===== -/
section CT5
variable {G : qG} {y y' : Nat → Option qSh} {μ ν : qMu} {n s a b r f g X : Nat} {h : qHp}
theorem zN4 : (4 : Int32).toNatClampNeg = 4 := rfl
theorem zN6 : (6 : Int32).toNatClampNeg = 6 := rfl
theorem zN8 : (8 : Int32).toNatClampNeg = 8 := rfl
theorem zN2 : (2 : Int32).toNatClampNeg = 2 := rfl
theorem zN900 : (900 : Int32).toNatClampNeg = 900 := rfl
theorem zN2001 : (2001 : Int32).toNatClampNeg = 2001 := rfl
theorem BL.of (h : BL y b) (he : ∀ q, b ≤ q → q < b + 41 → y' q = y q) : BL y' b := by
  obtain ⟨h0, h1, h2, h3, h4, h5, h6, h7, h8, h9, h10, h11, h12⟩ := h
  refine ⟨?_, ?_, ?_, ?_, ?_, ?_, ?_, ?_, ?_, fun i hi => ?_, fun i hi => ?_, fun i hi => ?_, fun i hi => ?_⟩
  · rw [he _ (by omega) (by omega)]; exact h0
  · rw [he _ (by omega) (by omega)]; exact h1
  · rw [he _ (by omega) (by omega)]; exact h2
  · rw [he _ (by omega) (by omega)]; exact h3
  · rw [he _ (by omega) (by omega)]; exact h4
  · rw [he _ (by omega) (by omega)]; exact h5
  · rw [he _ (by omega) (by omega)]; exact h6
  · rw [he _ (by omega) (by omega)]; exact h7
  · rw [he _ (by omega) (by omega)]; exact h8
  · rw [he _ (by omega) (by omega)]; exact h9 i hi
  · rw [he _ (by omega) (by omega)]; exact h10 i hi
  · rw [he _ (by omega) (by omega)]; exact h11 i hi
  · rw [he _ (by omega) (by omega)]; exact h12 i hi
theorem ret0 {m : Nat} {L : qLV} : qR PG G (m, [(29, 1, .return_, [], .null)], L, [], h) = some (.inl none, h) := by rw [s_return]
theorem t13 (hy : y r = some (.inl (8, bo8))) : ∃ y1 μ1, qR PG G (qEntry PG 13 [.ref r] (MK y μ (r + 1) s)) = some (.inl none, MK y1 μ1 (r + 43) (s + 1336)) ∧ (∀ q, q < r → y1 q = y q ∧ μ1 q = μ q) ∧ RL y1 r ∧ μ1 r = sv (μ r) 6 (-1) ∧ μ1 (r + 1) = fun _ => 0 := by
  obtain ⟨y2, μ2, e2, f2, b2, m2, z2⟩ := t8 (G := G) (b := r + 2) (y := yU (yU (yU y (r + 1) (.inr (.inl (3, 900)))) r (.inl (8, bo8.set 0 (2, r + 1)))) (r + 2) (.inl (0, bo0))) (μ := stc (stc μ (r + 1) (fun _ => 0)) (r + 2) (fun _ => 0)) (s := s + 900 + 15) yU_eq
  have yr : y2 r = some (.inl (8, bo8.set 0 (2, r + 1))) := by rw [(f2 r (by omega)).1, yU_ne (by omega), yU_eq]
  refine ⟨yU y2 r (.inl (8, (bo8.set 0 (2, r + 1)).set 1 (2, r + 2))), stc μ2 r (sv (μ2 r) 6 (-1)), ?_, fun q hq => ⟨?_, ?_⟩, ⟨?_, ?_, ?_⟩, ?_, ?_⟩
  · show qR PG G (13, K13_0, [some (.ref r)], [], MK y μ (r + 1) s) = _
    unfold K13_0
    rw [a0, c_obj (by decide), al_N (sh := .inr (.inl (3, 900))) kst_s hy (by decide) (by omega) (by decide) (by decide) rfl]
    rw [zN900]
    rw [al_O (sh' := bo0) (by decide) (Or.inl rfl) (by decide) (fun _ _ _ _ => nw0) e2 yr (by simp [bo8])]
    rw [al_P kst_i yU_eq rfl, ret0]
    rfl
  · rw [yU_ne (by omega), (f2 q (by omega)).1, yU_ne (by omega), yU_ne (by omega), yU_ne (by omega)]
  · rw [stc_ne (by omega), (f2 q (by omega)).2, stc_ne (by omega), stc_ne (by omega)]
  · rw [yU_eq]; rfl
  · rw [yU_ne (by omega), (f2 (r + 1) (by omega)).1, yU_ne (by omega), yU_ne (by omega), yU_eq]
  · exact b2.of fun q h1 h2 => yU_ne (by omega)
  · rw [stc_eq, (f2 r (by omega)).2, stc_ne (by omega), stc_ne (by omega)]
  · rw [stc_ne (by omega), (f2 (r + 1) (by omega)).2, stc_ne (by omega), stc_eq]
theorem ret15 {m : Nat} {L : qLV} : qR PG G (m, [(33, 1, .return_, [], .null)], L, [], h) = some (.inl none, h) := by rw [s_return]
theorem t15 (hy : y f = some (.inl (3, bo3))) : ∃ y1 μ1, qR PG G (qEntry PG 15 [.ref f] (MK y μ (f + 1) s)) = some (.inl none, MK y1 μ1 (f + 44) (s + 4438)) ∧ (∀ q, q < f → y1 q = y q ∧ μ1 q = μ q) ∧ FL y1 f := by
  obtain ⟨y2, μ2, e2, f2, b2, m2, z2⟩ := t8 (G := G) (b := f + 1) (y := yU y (f + 1) (.inl (0, bo0))) (μ := stc μ (f + 1) (fun _ => 0)) (s := s + 15) yU_eq
  have yr : y2 f = some (.inl (3, bo3)) := by rw [(f2 f (by omega)).1, yU_ne (by omega)]; exact hy
  refine ⟨yU (yU (yU (yU (yU y2 f (.inl (3, bo3.set 0 (2, f + 1)))) (f + 42) (.inr (.inl (1, 2001)))) f (.inl (3, (bo3.set 0 (2, f + 1)).set 1 (2, f + 42)))) (f + 43) (.inr (.inl (1, 2001)))) f (.inl (3, ((bo3.set 0 (2, f + 1)).set 1 (2, f + 42)).set 2 (2, f + 43))), stc (stc μ2 (f + 42) (fun _ => 0)) (f + 43) (fun _ => 0), ?_, fun q hq => ⟨?_, ?_⟩, ⟨?_, ?_, ?_, ?_⟩⟩
  · show qR PG G (15, K15_0, [some (.ref f)], [], MK y μ (f + 1) s) = _
    unfold K15_0
    rw [a0, c_obj (by decide), al_O (sh' := bo0) (by decide) (Or.inl rfl) (by decide) (fun _ _ _ _ => nw0) e2 yr (by simp [bo3])]
    rw [al_N (sh := .inr (.inl (1, 2001))) kst_s yU_eq (by simp [bo3]) (by omega) (by decide) (by decide) rfl, zN2001]
    rw [al_N (sh := .inr (.inl (1, 2001))) kst_s yU_eq (by simp [bo3]) (by omega) (by decide) (by decide) rfl, zN2001, ret15]
  · rw [yU_ne (by omega), yU_ne (by omega), yU_ne (by omega), yU_ne (by omega), yU_ne (by omega), (f2 q (by omega)).1, yU_ne (by omega)]
  · rw [stc_ne (by omega), stc_ne (by omega), (f2 q (by omega)).2, stc_ne (by omega)]
  · rw [yU_eq]; rfl
  · exact b2.of fun q h1 h2 => by rw [yU_ne (by omega), yU_ne (by omega), yU_ne (by omega), yU_ne (by omega), yU_ne (by omega)]
  · rw [yU_ne (by omega), yU_ne (by omega), yU_ne (by omega), yU_eq]
  · rw [yU_ne (by omega), yU_eq]
theorem ret16 {m : Nat} {L : qLV} : qR PG G (m, [(36, 1, .return_, [], .null)], L, [], h) = some (.inl none, h) := by rw [s_return]
theorem t16 (hy : y g = some (.inl (1, bo1))) : ∃ y1 μ1, qR PG G (qEntry PG 16 [.ref g] (MK y μ (g + 1) s)) = some (.inl none, MK y1 μ1 (g + 5) (s + 24)) ∧ (∀ q, q < g → y1 q = y q ∧ μ1 q = μ q) ∧ DL y1 g := by
  apply Exists.intro
  apply Exists.intro
  apply And.intro
  · show qR PG G (16, K16_0, [some (.ref g)], [], MK y μ (g + 1) s) = _
    unfold K16_0
    rw [a0, c_obj (by decide)]
    rw [al_N (sh := .inr (.inl (1, 6))) kst_b hy (by decide) (by omega) (by decide) (by decide) rfl, zN6]
    rw [al_N (sh := .inr (.inl (0, 6))) kst_b yU_eq (by simp [bo1]) (by omega) (by decide) (by decide) rfl, zN6]
    rw [al_N (sh := .inr (.inl (0, 6))) kst_b yU_eq (by simp [bo1]) (by omega) (by decide) (by decide) rfl, zN6]
    rw [al_N (sh := .inr (.inl (1, 6))) kst_b yU_eq (by simp [bo1]) (by omega) (by decide) (by decide) rfl, zN6]
    simp only [Nat.add_assoc, Nat.reduceAdd]
    exact ret16
  · refine ⟨fun q hq => ⟨?_, ?_⟩, ?_, ?_, ?_, ?_, ?_⟩
    · repeat rw [yU_ne (by omega)]
    · repeat rw [stc_ne (by omega)]
    · rw [yU_eq]; rfl
    · repeat (first | rw [yU_eq] | rw [yU_ne (by omega)])
    · repeat (first | rw [yU_eq] | rw [yU_ne (by omega)])
    · repeat (first | rw [yU_eq] | rw [yU_ne (by omega)])
    · repeat (first | rw [yU_eq] | rw [yU_ne (by omega)])
/-- the History's Books -/
theorem t14_1 (hy : y a = some (.inl (5, shF 5 a))) (hy1 : y (a + 1) = some (.inr (.inr (10, 8, fun _ => none)))) : ∀ i, i ≤ 8 → ∃ y1 μ1, qR PG G (14, K14_1, [some (.ref a), some (.int (nI 0))], [], MK y μ (a + 2) s) = qR PG G (14, K14_1, [some (.ref a), some (.int (nI i))], [], MK y1 μ1 (a + 2 + 41 * i) (s + 436 * i)) ∧ (∀ q, q < a + 1 → y1 q = y q ∧ μ1 q = μ q) ∧ y1 (a + 1) = some (.inr (.inr (10, 8, rfk (a + 2) i))) ∧ ∀ k, k < i → BL y1 (a + 2 + 41 * k)
  | 0, _ => ⟨y, μ, rfl, fun q _ => ⟨rfl, rfl⟩, by
      rw [hy1]
      refine congrArg (fun f => some (Sum.inr (Sum.inr (10, 8, f)))) ?_
      funext j
      unfold rfk
      rw [if_neg (by omega)], fun k hk => absurd hk (Nat.not_lt_zero k)⟩
  | i + 1, hi => by
    obtain ⟨y1, μ1, e1, f1, r1, b1⟩ := t14_1 hy hy1 i (by omega)
    obtain ⟨y2, μ2, e2, f2, b2, m2, z2⟩ := t8 (G := G) (b := a + 2 + 41 * i) (y := yU y1 (a + 2 + 41 * i) (.inl (0, bo0))) (μ := stc μ1 (a + 2 + 41 * i) (fun _ => 0)) (s := s + 436 * i + 15) yU_eq
    have i1 : ¬ nI 8 ≤ nI i := by rw [mI_le (by omega) (by omega)]; omega
    have i2 : ¬ (8 : Int32) ≤ nI i := i1
    have g1 : qGetF (MK y1 μ1 (a + 2 + 41 * i) (s + 436 * i)) 5 0 a = some (.ref (a + 1)) := by
      rw [g_get (fds := shF 5 a) (by rw [(f1 a (by omega)).1]; exact hy)]
      rfl
    have g3 := aR (a := a + 1) (t := 10) (len := 8) (v := a + 2 + 41 * i) (i := nI i) (f := rfk (a + 2) i) (y := y2) (μ := μ2) (n := a + 2 + 41 * i + 41) (s := s + 436 * i + 15 + 421) (by rw [(f2 _ (by omega)).1, yU_ne (by omega)]; exact r1) (by decide) (ixok_n (by omega) (by decide)) (isO (fds := shF 0 (a + 2 + 41 * i)) b2.1)
    rw [nI_clamp (by omega)] at g3
    have er : va_up (rfk (a + 2) i) i (some (a + 2 + 41 * i)) = rfk (a + 2) (i + 1) := by
      funext j
      unfold va_up rfk
      by_cases hj : j = i
      · rw [if_pos hj, if_pos (by omega), hj]
      · rw [if_neg hj]
        by_cases h2 : j < i
        · rw [if_pos h2, if_pos (by omega)]
        · rw [if_neg h2, if_neg (by omega)]
    rw [er] at g3
    refine ⟨yU y2 (a + 1) (.inr (.inr (10, 8, rfk (a + 2) (i + 1)))), μ2, ?_, fun q hq => ⟨?_, ?_⟩, yU_eq, fun k hk => ?_⟩
    · rw [e1, show a + 2 + 41 * (i + 1) = a + 2 + 41 * i + 41 by omega, show s + 436 * (i + 1) = s + 436 * i + 15 + 421 by omega]
      conv => lhs; unfold K14_1
      simp -implicitDefEqProofs only [j14_1, s_iadd, s_isub, s_imul, s_ineg, s_iand, s_ior, s_ixor, s_ishl, s_ishr, s_iushr, s_i2l, s_l2i, s_i2b, s_i2c, s_ladd, s_lsub, s_lmul, s_lneg, s_land, s_lor, s_lshl, s_lshr, s_lushr, s_lcmp, s_l2d, s_l2f, s_i2d, s_i2f, s_idiv, s_ldiv, s_irem, s_lrem, s_dcmp, s_fcmp, s_ddiv, s_fdiv, s_f2d, s_dup_i, s_dup_r, s_dup2_l, s_dup2_ir, s_pop, s_iconst, s_bipush, s_sipush, s_lconst, s_fconst, s_dconst, s_ldc, s_ldc_w, s_ldc2_w, s_iload, s_iload_n0, s_iload_n1, s_iload_n2, s_iload_n3, s_lload, s_lload_n0, s_lload_n1, s_lload_n2, s_lload_n3, s_fload, s_fload_n0, s_fload_n1, s_fload_n2, s_fload_n3, s_dload, s_dload_n0, s_dload_n1, s_dload_n2, s_dload_n3, s_aload, s_aload_n0, s_aload_n1, s_aload_n2, s_aload_n3, s_istore, s_istore_n0, s_istore_n1, s_istore_n2, s_istore_n3, s_lstore, s_lstore_n0, s_lstore_n1, s_lstore_n2, s_lstore_n3, s_fstore, s_fstore_n0, s_fstore_n1, s_fstore_n2, s_fstore_n3, s_dstore, s_dstore_n0, s_dstore_n1, s_dstore_n2, s_dstore_n3, s_astore, s_astore_n0, s_astore_n1, s_astore_n2, s_astore_n3, s_astoreN_n, s_iinc, s_if_eq, s_if_lt, s_if_ge, s_if_gt, s_if_le, s_if_ne, s_ic_eq, s_ic_lt, s_ic_ge, s_ic_gt, s_ic_le, s_ic_ne, s_ifnn_r, s_ifnn_n, s_goto, s_nop, s_tab, s_getfield, s_putfield, s_anewarray, s_newarray, s_iaload, s_baload, s_caload, s_laload, s_daload, s_aaload, s_iastore, s_bastore, s_castore, s_lastore, s_dastore, s_aastore, s_arraylength, s_lreturn, s_freturn, s_dreturn, s_areturn, s_return, s_new, s_thr, ld_Z, ld_S, kl_Z, pd_0, pd_c, pd_n, ag_i, ag_r, ag_l, ag_n, st_Z, st_On, st_Oi, st_Or, st_Ol, st_S, s2_eq, mk_t, mk_f, mk_n, cl_v, cl_n, cl_if, vl_0, vl_1, vl_2, cv_i, cv_l, cv_d, cv_f, rf_s, qW_n, qW_i, qW_l, qW_r, qMem, x_get, x_putI, x_putL, x_ldL, x_ldI, x_ldA, x_stL, x_stI, x_isO, MK_1, MK_21, List.set_cons_zero, List.set_cons_succ, List.getElem?_cons_zero, List.getElem?_cons_succ, Option.map_some, List.tail_cons, i64_32, Nat.zero_add, Nat.reduceAdd, Nat.reduceLeDiff, Nat.le_refl, if_true, if_false, ite_true, ite_false, reduceIte, lnO, rfO, fn_0, f_0_0, f_0_1, f_0_2, f_0_3, f_0_4, f_0_5, f_0_6, f_0_7, f_0_8, f_0_9, f_0_10, f_0_11, f_0_12, f_0_13, f_0_14, fn_1, f_1_0, f_1_1, f_1_2, f_1_3, f_1_4, fn_2, f_2_0, f_2_1, f_2_2, f_2_3, f_2_4, f_2_5, fn_3, f_3_0, f_3_1, f_3_2, f_3_3, fn_4, f_4_0, f_4_1, f_4_2, f_4_3, f_4_4, f_4_5, fn_5, f_5_0, f_5_1, f_5_2, fn_6, f_6_0, f_6_1, f_6_2, fn_7, f_7_0, f_7_1, f_7_2, f_7_3, f_7_4, fn_8, f_8_0, f_8_1, f_8_2, f_8_3, f_8_4, f_8_5, f_8_6, f_8_7, fn_9, f_9_0, f_9_1, f_9_2, f_9_3, f_9_4, f_9_5, fn_10, f_10_0, f_10_1, f_10_2, f_10_3, f_10_4, f_10_5, f_10_6, f_10_7, f_10_8, f_10_9, f_10_10, f_10_11, f_10_12, f_10_13, f_10_14, f_10_15, f_10_16, f_10_17, f_10_18, f_10_19, f_10_20, f_10_21, f_10_22, f_10_23, Nat.reduceLT, cv_t, x_ld3, x_ld2, x_st3, x_st2, rm_g2, rm_g3, rm_g4, rm_g5, rm_g6, rm_g7, rm_s2, rm_s3, rm_s4, rm_s5, rm_s6, rm_s7, rm_t, c8, g1, e2, g3, nw0, i1, i2, mI_inc]
    · rw [yU_ne (by omega), (f2 q (by omega)).1, yU_ne (by omega)]; exact (f1 q hq).1
    · rw [(f2 q (by omega)).2, stc_ne (by omega)]; exact (f1 q hq).2
    · by_cases hk2 : k = i
      · subst hk2
        exact b2.of fun q h1 h2 => yU_ne (by omega)
      · exact (b1 k (by omega)).of fun q h1 h2 => by rw [yU_ne (by omega), (f2 q (by omega)).1, yU_ne (by omega)]
theorem t14_z : qR PG G (14, [(13, 1, .iconst 0, [], .int 0), (14, 1, .istore_n 1, [], .null), (15, 0, .nop, [1], .null)], [some (.ref a), none], [], h) = qR PG G (14, K14_1, [some (.ref a), some (.int (nI 0))], [], h) := by
  simp -implicitDefEqProofs only [j14_1, s_iadd, s_isub, s_imul, s_ineg, s_iand, s_ior, s_ixor, s_ishl, s_ishr, s_iushr, s_i2l, s_l2i, s_i2b, s_i2c, s_ladd, s_lsub, s_lmul, s_lneg, s_land, s_lor, s_lshl, s_lshr, s_lushr, s_lcmp, s_l2d, s_l2f, s_i2d, s_i2f, s_idiv, s_ldiv, s_irem, s_lrem, s_dcmp, s_fcmp, s_ddiv, s_fdiv, s_f2d, s_dup_i, s_dup_r, s_dup2_l, s_dup2_ir, s_pop, s_iconst, s_bipush, s_sipush, s_lconst, s_fconst, s_dconst, s_ldc, s_ldc_w, s_ldc2_w, s_iload, s_iload_n0, s_iload_n1, s_iload_n2, s_iload_n3, s_lload, s_lload_n0, s_lload_n1, s_lload_n2, s_lload_n3, s_fload, s_fload_n0, s_fload_n1, s_fload_n2, s_fload_n3, s_dload, s_dload_n0, s_dload_n1, s_dload_n2, s_dload_n3, s_aload, s_aload_n0, s_aload_n1, s_aload_n2, s_aload_n3, s_istore, s_istore_n0, s_istore_n1, s_istore_n2, s_istore_n3, s_lstore, s_lstore_n0, s_lstore_n1, s_lstore_n2, s_lstore_n3, s_fstore, s_fstore_n0, s_fstore_n1, s_fstore_n2, s_fstore_n3, s_dstore, s_dstore_n0, s_dstore_n1, s_dstore_n2, s_dstore_n3, s_astore, s_astore_n0, s_astore_n1, s_astore_n2, s_astore_n3, s_astoreN_n, s_iinc, s_if_eq, s_if_lt, s_if_ge, s_if_gt, s_if_le, s_if_ne, s_ic_eq, s_ic_lt, s_ic_ge, s_ic_gt, s_ic_le, s_ic_ne, s_ifnn_r, s_ifnn_n, s_goto, s_nop, s_tab, s_getfield, s_putfield, s_anewarray, s_newarray, s_iaload, s_baload, s_caload, s_laload, s_daload, s_aaload, s_iastore, s_bastore, s_castore, s_lastore, s_dastore, s_aastore, s_arraylength, s_lreturn, s_freturn, s_dreturn, s_areturn, s_return, s_new, s_thr, ld_Z, ld_S, kl_Z, pd_0, pd_c, pd_n, ag_i, ag_r, ag_l, ag_n, st_Z, st_On, st_Oi, st_Or, st_Ol, st_S, s2_eq, mk_t, mk_f, mk_n, cl_v, cl_n, cl_if, vl_0, vl_1, vl_2, cv_i, cv_l, cv_d, cv_f, rf_s, qW_n, qW_i, qW_l, qW_r, qMem, x_get, x_putI, x_putL, x_ldL, x_ldI, x_ldA, x_stL, x_stI, x_isO, MK_1, MK_21, List.set_cons_zero, List.set_cons_succ, List.getElem?_cons_zero, List.getElem?_cons_succ, Option.map_some, List.tail_cons, i64_32, Nat.zero_add, Nat.reduceAdd, Nat.reduceLeDiff, Nat.le_refl, if_true, if_false, ite_true, ite_false, reduceIte, lnO, rfO, fn_0, f_0_0, f_0_1, f_0_2, f_0_3, f_0_4, f_0_5, f_0_6, f_0_7, f_0_8, f_0_9, f_0_10, f_0_11, f_0_12, f_0_13, f_0_14, fn_1, f_1_0, f_1_1, f_1_2, f_1_3, f_1_4, fn_2, f_2_0, f_2_1, f_2_2, f_2_3, f_2_4, f_2_5, fn_3, f_3_0, f_3_1, f_3_2, f_3_3, fn_4, f_4_0, f_4_1, f_4_2, f_4_3, f_4_4, f_4_5, fn_5, f_5_0, f_5_1, f_5_2, fn_6, f_6_0, f_6_1, f_6_2, fn_7, f_7_0, f_7_1, f_7_2, f_7_3, f_7_4, fn_8, f_8_0, f_8_1, f_8_2, f_8_3, f_8_4, f_8_5, f_8_6, f_8_7, fn_9, f_9_0, f_9_1, f_9_2, f_9_3, f_9_4, f_9_5, fn_10, f_10_0, f_10_1, f_10_2, f_10_3, f_10_4, f_10_5, f_10_6, f_10_7, f_10_8, f_10_9, f_10_10, f_10_11, f_10_12, f_10_13, f_10_14, f_10_15, f_10_16, f_10_17, f_10_18, f_10_19, f_10_20, f_10_21, f_10_22, f_10_23, Nat.reduceLT, cv_t, x_ld3, x_ld2, x_st3, x_st2, rm_g2, rm_g3, rm_g4, rm_g5, rm_g6, rm_g7, rm_s2, rm_s3, rm_s4, rm_s5, rm_s6, rm_s7, rm_t]
  rfl
theorem t14_x : qR PG G (14, K14_1, [some (.ref a), some (.int (nI 8))], [], h) = some (.inl none, h) := by
  have i1 : (8 : Int32) ≤ nI 8 := by decide
  conv => lhs; unfold K14_1
  simp -implicitDefEqProofs only [j14_2, K14_2, i1, s_iadd, s_isub, s_imul, s_ineg, s_iand, s_ior, s_ixor, s_ishl, s_ishr, s_iushr, s_i2l, s_l2i, s_i2b, s_i2c, s_ladd, s_lsub, s_lmul, s_lneg, s_land, s_lor, s_lshl, s_lshr, s_lushr, s_lcmp, s_l2d, s_l2f, s_i2d, s_i2f, s_idiv, s_ldiv, s_irem, s_lrem, s_dcmp, s_fcmp, s_ddiv, s_fdiv, s_f2d, s_dup_i, s_dup_r, s_dup2_l, s_dup2_ir, s_pop, s_iconst, s_bipush, s_sipush, s_lconst, s_fconst, s_dconst, s_ldc, s_ldc_w, s_ldc2_w, s_iload, s_iload_n0, s_iload_n1, s_iload_n2, s_iload_n3, s_lload, s_lload_n0, s_lload_n1, s_lload_n2, s_lload_n3, s_fload, s_fload_n0, s_fload_n1, s_fload_n2, s_fload_n3, s_dload, s_dload_n0, s_dload_n1, s_dload_n2, s_dload_n3, s_aload, s_aload_n0, s_aload_n1, s_aload_n2, s_aload_n3, s_istore, s_istore_n0, s_istore_n1, s_istore_n2, s_istore_n3, s_lstore, s_lstore_n0, s_lstore_n1, s_lstore_n2, s_lstore_n3, s_fstore, s_fstore_n0, s_fstore_n1, s_fstore_n2, s_fstore_n3, s_dstore, s_dstore_n0, s_dstore_n1, s_dstore_n2, s_dstore_n3, s_astore, s_astore_n0, s_astore_n1, s_astore_n2, s_astore_n3, s_astoreN_n, s_iinc, s_if_eq, s_if_lt, s_if_ge, s_if_gt, s_if_le, s_if_ne, s_ic_eq, s_ic_lt, s_ic_ge, s_ic_gt, s_ic_le, s_ic_ne, s_ifnn_r, s_ifnn_n, s_goto, s_nop, s_tab, s_getfield, s_putfield, s_anewarray, s_newarray, s_iaload, s_baload, s_caload, s_laload, s_daload, s_aaload, s_iastore, s_bastore, s_castore, s_lastore, s_dastore, s_aastore, s_arraylength, s_lreturn, s_freturn, s_dreturn, s_areturn, s_return, s_new, s_thr, ld_Z, ld_S, kl_Z, pd_0, pd_c, pd_n, ag_i, ag_r, ag_l, ag_n, st_Z, st_On, st_Oi, st_Or, st_Ol, st_S, s2_eq, mk_t, mk_f, mk_n, cl_v, cl_n, cl_if, vl_0, vl_1, vl_2, cv_i, cv_l, cv_d, cv_f, rf_s, qW_n, qW_i, qW_l, qW_r, qMem, x_get, x_putI, x_putL, x_ldL, x_ldI, x_ldA, x_stL, x_stI, x_isO, MK_1, MK_21, List.set_cons_zero, List.set_cons_succ, List.getElem?_cons_zero, List.getElem?_cons_succ, Option.map_some, List.tail_cons, i64_32, Nat.zero_add, Nat.reduceAdd, Nat.reduceLeDiff, Nat.le_refl, if_true, if_false, ite_true, ite_false, reduceIte, lnO, rfO, fn_0, f_0_0, f_0_1, f_0_2, f_0_3, f_0_4, f_0_5, f_0_6, f_0_7, f_0_8, f_0_9, f_0_10, f_0_11, f_0_12, f_0_13, f_0_14, fn_1, f_1_0, f_1_1, f_1_2, f_1_3, f_1_4, fn_2, f_2_0, f_2_1, f_2_2, f_2_3, f_2_4, f_2_5, fn_3, f_3_0, f_3_1, f_3_2, f_3_3, fn_4, f_4_0, f_4_1, f_4_2, f_4_3, f_4_4, f_4_5, fn_5, f_5_0, f_5_1, f_5_2, fn_6, f_6_0, f_6_1, f_6_2, fn_7, f_7_0, f_7_1, f_7_2, f_7_3, f_7_4, fn_8, f_8_0, f_8_1, f_8_2, f_8_3, f_8_4, f_8_5, f_8_6, f_8_7, fn_9, f_9_0, f_9_1, f_9_2, f_9_3, f_9_4, f_9_5, fn_10, f_10_0, f_10_1, f_10_2, f_10_3, f_10_4, f_10_5, f_10_6, f_10_7, f_10_8, f_10_9, f_10_10, f_10_11, f_10_12, f_10_13, f_10_14, f_10_15, f_10_16, f_10_17, f_10_18, f_10_19, f_10_20, f_10_21, f_10_22, f_10_23, Nat.reduceLT, cv_t, x_ld3, x_ld2, x_st3, x_st2, rm_g2, rm_g3, rm_g4, rm_g5, rm_g6, rm_g7, rm_s2, rm_s3, rm_s4, rm_s5, rm_s6, rm_s7, rm_t]
theorem t14 (hy : y a = some (.inl (5, bo5))) : ∃ y1 μ1, qR PG G (qEntry PG 14 [.ref a] (MK y μ (a + 1) s)) = some (.inl none, MK y1 μ1 (a + 330) (s + 3496)) ∧ (∀ q, q < a → y1 q = y q ∧ μ1 q = μ q) ∧ HL y1 a ∧ μ1 a = μ a := by
  obtain ⟨y1, μ1, e1, f1, r1, b1⟩ := t14_1 (G := G) (a := a) (y := yU (yU y (a + 1) (.inr (.inr (10, 8, fun _ => none)))) a (.inl (5, bo5.set 0 (2, a + 1)))) (μ := stc μ (a + 1) (fun _ => 0)) (s := s + 8) yU_eq (by rw [yU_ne (by omega), yU_eq]) 8 (Nat.le_refl _)
  refine ⟨y1, μ1, ?_, fun q hq => ⟨?_, ?_⟩, ⟨?_, r1, fun k hk => b1 k hk⟩, ?_⟩
  · show qR PG G (14, K14_0, [some (.ref a), none], [], MK y μ (a + 1) s) = _
    unfold K14_0
    rw [a0, c_obj (by decide), al_A kst_b hy (by decide) (by omega) (by decide) (by decide), zN8, t14_z, e1, t14_x]
  · rw [(f1 q (by omega)).1, yU_ne (by omega), yU_ne (by omega)]
  · rw [(f1 q (by omega)).2, stc_ne (by omega)]
  · rw [(f1 a (by omega)).1, yU_eq]; rfl
  · rw [(f1 a (by omega)).2, stc_ne (by omega)]
end CT5
