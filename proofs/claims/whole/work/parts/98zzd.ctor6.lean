/-! ===== What is made new, 6: the object and the model ===== -/
section CT6
variable {G : qG} {y y' : Nat → Option qSh} {μ ν : qMu} {n s a b r f g X M : Nat} {h : qHp}
theorem zN391 : (391 : Int32).toNatClampNeg = 391 := rfl
theorem zN3128 : (3128 : Int32).toNatClampNeg = 3128 := rfl
theorem zN782 : (782 : Int32).toNatClampNeg = 782 := rfl
theorem zN18 : (18 : Int32).toNatClampNeg = 18 := rfl
theorem ret7 {m : Nat} {L : qLV} : qR PG G (m, [(67, 1, .return_, [], .null)], L, [], h) = some (.inl none, h) := by rw [s_return]
theorem RL.of (h : RL y r) (he : ∀ q, r ≤ q → q < r + 43 → y' q = y q) : RL y' r := by
  obtain ⟨h0, h1, h2⟩ := h
  exact ⟨by rw [he _ (by omega) (by omega)]; exact h0, by rw [he _ (by omega) (by omega)]; exact h1, h2.of fun q h1 h2 => he q (by omega) (by omega)⟩
theorem HL.of (h : HL y a) (he : ∀ q, a ≤ q → q < a + 330 → y' q = y q) : HL y' a := by
  obtain ⟨h0, h1, h2⟩ := h
  exact ⟨by rw [he _ (by omega) (by omega)]; exact h0, by rw [he _ (by omega) (by omega)]; exact h1, fun k hk => (h2 k hk).of fun q h1 h2 => he q (by omega) (by omega)⟩
theorem FL.of (h : FL y f) (he : ∀ q, f ≤ q → q < f + 44 → y' q = y q) : FL y' f := by
  obtain ⟨h0, h1, h2, h3⟩ := h
  exact ⟨by rw [he _ (by omega) (by omega)]; exact h0, h1.of fun q h1 h2 => he q (by omega) (by omega), by rw [he _ (by omega) (by omega)]; exact h2, by rw [he _ (by omega) (by omega)]; exact h3⟩
theorem DL.of (h : DL y g) (he : ∀ q, g ≤ q → q < g + 5 → y' q = y q) : DL y' g := by
  obtain ⟨h0, h1, h2, h3, h4⟩ := h
  exact ⟨by rw [he _ (by omega) (by omega)]; exact h0, by rw [he _ (by omega) (by omega)]; exact h1, by rw [he _ (by omega) (by omega)]; exact h2, by rw [he _ (by omega) (by omega)]; exact h3, by rw [he _ (by omega) (by omega)]; exact h4⟩
theorem t7 (hy : y X = some (.inl (9, bo9))) : ∃ y1 μ1, qR PG G (qEntry PG 7 [.ref X] (MK y μ (X + 1) s)) = some (.inl none, MK y1 μ1 (X + 465) (s + 9752)) ∧ (∀ q, q < X → y1 q = y q ∧ μ1 q = μ q) ∧ EL y1 X ∧ FL y1 (X + 415) ∧ DL y1 (X + 459) ∧ y1 (X + 464) = some (.inr (.inr (10, 2, fun _ => none))) ∧ (μ1 (X + 1) = sv (fun _ => 0) 2 1 ∧ ∀ j, 1 ≤ j → j ≤ 8 → μ1 (X + 1 + j) = fun _ => 0) ∧ μ1 (X + 42) = sv (fun _ => 0) 6 (-1) ∧ μ1 (X + 43) = (fun _ => 0) ∧ μ1 (X + 85) = fun _ => 0 := by
  -- the Book that is now
  obtain ⟨y2, μ2, e2, f2, b2, m2, z2⟩ := t8 (G := G) (b := X + 1) (y := yU y (X + 1) (.inl (0, bo0))) (μ := stc μ (X + 1) (fun _ => 0)) (s := s + 15) yU_eq
  have x2 : y2 X = some (.inl (9, bo9)) := by rw [(f2 X (by omega)).1, yU_ne (by omega)]; exact hy
  -- the Reader
  obtain ⟨y3, μ3, e3, f3, b3, m3, z3⟩ := t13 (G := G) (r := X + 42) (y := yU (yU y2 X (.inl (9, bo9.set 0 (2, X + 1)))) (X + 42) (.inl (8, bo8))) (μ := stc μ2 (X + 42) (fun _ => 0)) (s := s + 436 + 8) yU_eq
  have x3 : y3 X = some (.inl (9, bo9.set 0 (2, X + 1))) := by rw [(f3 X (by omega)).1, yU_ne (by omega), yU_eq]
  -- the History
  obtain ⟨y4, μ4, e4, f4, b4, m4⟩ := t14 (G := G) (a := X + 85) (y := yU (yU y3 X (.inl (9, (bo9.set 0 (2, X + 1)).set 1 (2, X + 42)))) (X + 85) (.inl (5, bo5))) (μ := stc μ3 (X + 85) (fun _ => 0)) (s := s + 1780 + 3) yU_eq
  have x4 : y4 X = some (.inl (9, (bo9.set 0 (2, X + 1)).set 1 (2, X + 42))) := by rw [(f4 X (by omega)).1, yU_ne (by omega), yU_eq]
  -- the Forecast
  obtain ⟨y5, μ5, e5, f5, b5⟩ := t15 (G := G) (f := X + 415) (y := yU (yU y4 X (.inl (9, ((bo9.set 0 (2, X + 1)).set 1 (2, X + 42)).set 2 (2, X + 85)))) (X + 415) (.inl (3, bo3))) (μ := stc μ4 (X + 415) (fun _ => 0)) (s := s + 5279 + 4) yU_eq
  have x5 : y5 X = some (.inl (9, ((bo9.set 0 (2, X + 1)).set 1 (2, X + 42)).set 2 (2, X + 85))) := by rw [(f5 X (by omega)).1, yU_ne (by omega), yU_eq]
  -- the Debts
  obtain ⟨y6, μ6, e6, f6, b6⟩ := t16 (G := G) (g := X + 459) (y := yU (yU y5 X (.inl (9, (((bo9.set 0 (2, X + 1)).set 1 (2, X + 42)).set 2 (2, X + 85)).set 3 (2, X + 415)))) (X + 459) (.inl (1, bo1))) (μ := stc μ5 (X + 459) (fun _ => 0)) (s := s + 9721 + 5) yU_eq
  have x6 : y6 X = some (.inl (9, (((bo9.set 0 (2, X + 1)).set 1 (2, X + 42)).set 2 (2, X + 85)).set 3 (2, X + 415))) := by rw [(f6 X (by omega)).1, yU_ne (by omega), yU_eq]
  have hi6 : ∀ q, q < X + 459 → q ≠ X → y6 q = y5 q := fun q h1 h2 => by rw [(f6 q h1).1, yU_ne (by omega), yU_ne (by omega)]
  have hi5 : ∀ q, q < X + 415 → q ≠ X → y5 q = y4 q := fun q h1 h2 => by rw [(f5 q h1).1, yU_ne (by omega), yU_ne (by omega)]
  have hi4 : ∀ q, q < X + 85 → q ≠ X → y4 q = y3 q := fun q h1 h2 => by rw [(f4 q h1).1, yU_ne (by omega), yU_ne (by omega)]
  have hi3 : ∀ q, q < X + 42 → q ≠ X → y3 q = y2 q := fun q h1 h2 => by rw [(f3 q h1).1, yU_ne (by omega), yU_ne (by omega)]
  have hi2 : ∀ q, q < X → y2 q = y q := fun q h1 => by rw [(f2 q (by omega)).1, yU_ne (by omega)]
  have mi6 : ∀ q, q < X + 459 → μ6 q = μ5 q := fun q h1 => by rw [(f6 q h1).2, stc_ne (by omega)]
  have mi5 : ∀ q, q < X + 415 → μ5 q = μ4 q := fun q h1 => by rw [(f5 q h1).2, stc_ne (by omega)]
  have mi4 : ∀ q, q < X + 85 → μ4 q = μ3 q := fun q h1 => by rw [(f4 q h1).2, stc_ne (by omega)]
  have mi3 : ∀ q, q < X + 42 → μ3 q = μ2 q := fun q h1 => by rw [(f3 q h1).2, stc_ne (by omega)]
  have mi2 : ∀ q, q < X + 1 → μ2 q = μ q := fun q h1 => by rw [(f2 q h1).2, stc_ne (by omega)]
  apply Exists.intro
  apply Exists.intro
  apply And.intro
  · show qR PG G (7, K7_0, [some (.ref X)], [], MK y μ (X + 1) s) = _
    unfold K7_0
    rw [a0, c_obj (by decide)]
    rw [al_O (sh' := bo0) (by decide) (Or.inl rfl) (by decide) (fun _ _ _ _ => nw0) e2 x2 (by decide)]
    rw [show X + 1 + 41 = X + 42 from rfl, show s + 15 + 421 = s + 436 from rfl]
    rw [al_O (sh' := bo8) (by decide) (Or.inr rfl) (by decide) (fun _ _ _ _ => nw8) e3 x3 (by simp [bo9])]
    rw [show X + 42 + 43 = X + 85 from rfl, show s + 436 + 8 + 1336 = s + 1780 from rfl]
    rw [al_O (sh' := bo5) (by decide) (Or.inl rfl) (by decide) (fun _ _ _ _ => nw5) e4 x4 (by simp [bo9])]
    rw [show X + 85 + 330 = X + 415 from rfl, show s + 1780 + 3 + 3496 = s + 5279 from rfl]
    rw [al_O (sh' := bo3) (by decide) (Or.inr rfl) (by decide) (fun _ _ _ _ => nw3) e5 x5 (by simp [bo9])]
    rw [show X + 415 + 44 = X + 459 from rfl, show s + 5279 + 4 + 4438 = s + 9721 from rfl]
    rw [al_O (sh' := bo1) (by decide) (Or.inr rfl) (by decide) (fun _ _ _ _ => nw1) e6 x6 (by simp [bo9])]
    rw [al_A kst_i yU_eq (by simp [bo9]) (by omega) (by decide) (by decide), zN2]
    exact ret7
  · refine ⟨fun q hq => ⟨?_, ?_⟩, ⟨?_, ?_, ?_, ?_⟩, ?_, ?_, ?_, ⟨?_, fun j h1 h2 => ?_⟩, ?_, ?_, ?_⟩
    · rw [yU_ne (by omega), yU_ne (by omega), yU_ne (by omega), hi6 q (by omega) (by omega), hi5 q (by omega) (by omega), hi4 q (by omega) (by omega), hi3 q (by omega) (by omega), hi2 q hq]
    · rw [stc_ne (by omega), mi6 q (by omega), mi5 q (by omega), mi4 q (by omega), mi3 q (by omega), mi2 q (by omega)]
    · rw [yU_eq]; rfl
    · exact b2.of fun q h1 h2 => by rw [yU_ne (by omega), yU_ne (by omega), yU_ne (by omega), hi6 q (by omega) (by omega), hi5 q (by omega) (by omega), hi4 q (by omega) (by omega), hi3 q (by omega) (by omega)]
    · exact b3.of fun q h1 h2 => by rw [yU_ne (by omega), yU_ne (by omega), yU_ne (by omega), hi6 q (by omega) (by omega), hi5 q (by omega) (by omega), hi4 q (by omega) (by omega)]
    · exact b4.of fun q h1 h2 => by rw [yU_ne (by omega), yU_ne (by omega), yU_ne (by omega), hi6 q (by omega) (by omega), hi5 q (by omega) (by omega)]
    · exact b5.of fun q h1 h2 => by rw [yU_ne (by omega), yU_ne (by omega), yU_ne (by omega), hi6 q (by omega) (by omega)]
    · exact b6.of fun q h1 h2 => by rw [yU_ne (by omega), yU_ne (by omega), yU_ne (by omega)]
    · rw [yU_ne (by omega), yU_eq]
    · rw [stc_ne (by omega), mi6 _ (by omega), mi5 _ (by omega), mi4 _ (by omega), mi3 _ (by omega), m2, stc_eq]
    · rw [stc_ne (by omega), mi6 _ (by omega), mi5 _ (by omega), mi4 _ (by omega), mi3 _ (by omega), z2 j h1 h2]
    · rw [stc_ne (by omega), mi6 _ (by omega), mi5 _ (by omega), mi4 _ (by omega), m3, stc_eq]
    · rw [stc_ne (by omega), mi6 _ (by omega), mi5 _ (by omega), mi4 _ (by omega), z3]
    · rw [stc_ne (by omega), mi6 _ (by omega), mi5 _ (by omega), m4, stc_eq]
theorem t155_z (h0 : y M = some (.inl (10, shF 10 M))) (h1 : y (M + 1) = some (.inr (.inl (1, 391)))) : qR PG G (155, [(127, 1, .aload_n 0, [], .null), (128, 3, .getfield 9, [1326, 10, 0], .null), (131, 3, .invokestatic 59, [3, 156, 1, 1323], .null), (134, 1, .return_, [], .null)], [some (.ref M)], [], MK y μ n s) = some (.inl none, MK y (stc μ (M + 1) (bgR (μ (M + 1)))) n s) := by
  have g := t156 (G := G) (μ := μ) (n := n) (s := s) h1
  simp -implicitDefEqProofs only [s_iadd, s_isub, s_imul, s_ineg, s_iand, s_ior, s_ixor, s_ishl, s_ishr, s_iushr, s_i2l, s_l2i, s_i2b, s_i2c, s_ladd, s_lsub, s_lmul, s_lneg, s_land, s_lor, s_lshl, s_lshr, s_lushr, s_lcmp, s_l2d, s_l2f, s_i2d, s_i2f, s_idiv, s_ldiv, s_irem, s_lrem, s_dcmp, s_fcmp, s_ddiv, s_fdiv, s_f2d, s_dup_i, s_dup_r, s_dup2_l, s_dup2_ir, s_pop, s_iconst, s_bipush, s_sipush, s_lconst, s_fconst, s_dconst, s_ldc, s_ldc_w, s_ldc2_w, s_iload, s_iload_n0, s_iload_n1, s_iload_n2, s_iload_n3, s_lload, s_lload_n0, s_lload_n1, s_lload_n2, s_lload_n3, s_fload, s_fload_n0, s_fload_n1, s_fload_n2, s_fload_n3, s_dload, s_dload_n0, s_dload_n1, s_dload_n2, s_dload_n3, s_aload, s_aload_n0, s_aload_n1, s_aload_n2, s_aload_n3, s_istore, s_istore_n0, s_istore_n1, s_istore_n2, s_istore_n3, s_lstore, s_lstore_n0, s_lstore_n1, s_lstore_n2, s_lstore_n3, s_fstore, s_fstore_n0, s_fstore_n1, s_fstore_n2, s_fstore_n3, s_dstore, s_dstore_n0, s_dstore_n1, s_dstore_n2, s_dstore_n3, s_astore, s_astore_n0, s_astore_n1, s_astore_n2, s_astore_n3, s_astoreN_n, s_iinc, s_if_eq, s_if_lt, s_if_ge, s_if_gt, s_if_le, s_if_ne, s_ic_eq, s_ic_lt, s_ic_ge, s_ic_gt, s_ic_le, s_ic_ne, s_ifnn_r, s_ifnn_n, s_goto, s_nop, s_tab, s_getfield, s_putfield, s_anewarray, s_newarray, s_iaload, s_baload, s_caload, s_laload, s_daload, s_aaload, s_iastore, s_bastore, s_castore, s_lastore, s_dastore, s_aastore, s_arraylength, s_lreturn, s_freturn, s_dreturn, s_areturn, s_return, s_new, s_thr, ld_Z, ld_S, kl_Z, pd_0, pd_c, pd_n, ag_i, ag_r, ag_l, ag_n, st_Z, st_On, st_Oi, st_Or, st_Ol, st_S, s2_eq, mk_t, mk_f, mk_n, cl_v, cl_n, cl_if, vl_0, vl_1, vl_2, cv_i, cv_l, cv_d, cv_f, rf_s, qW_n, qW_i, qW_l, qW_r, qMem, x_get, x_putI, x_putL, x_ldL, x_ldI, x_ldA, x_stL, x_stI, x_isO, MK_1, MK_21, List.set_cons_zero, List.set_cons_succ, List.getElem?_cons_zero, List.getElem?_cons_succ, Option.map_some, List.tail_cons, i64_32, Nat.zero_add, Nat.reduceAdd, Nat.reduceLeDiff, Nat.le_refl, if_true, if_false, ite_true, ite_false, reduceIte, lnO, rfO, fn_0, f_0_0, f_0_1, f_0_2, f_0_3, f_0_4, f_0_5, f_0_6, f_0_7, f_0_8, f_0_9, f_0_10, f_0_11, f_0_12, f_0_13, f_0_14, fn_1, f_1_0, f_1_1, f_1_2, f_1_3, f_1_4, fn_2, f_2_0, f_2_1, f_2_2, f_2_3, f_2_4, f_2_5, fn_3, f_3_0, f_3_1, f_3_2, f_3_3, fn_4, f_4_0, f_4_1, f_4_2, f_4_3, f_4_4, f_4_5, fn_5, f_5_0, f_5_1, f_5_2, fn_6, f_6_0, f_6_1, f_6_2, fn_7, f_7_0, f_7_1, f_7_2, f_7_3, f_7_4, fn_8, f_8_0, f_8_1, f_8_2, f_8_3, f_8_4, f_8_5, f_8_6, f_8_7, fn_9, f_9_0, f_9_1, f_9_2, f_9_3, f_9_4, f_9_5, fn_10, f_10_0, f_10_1, f_10_2, f_10_3, f_10_4, f_10_5, f_10_6, f_10_7, f_10_8, f_10_9, f_10_10, f_10_11, f_10_12, f_10_13, f_10_14, f_10_15, f_10_16, f_10_17, f_10_18, f_10_19, f_10_20, f_10_21, f_10_22, f_10_23, Nat.reduceLT, cv_t, x_ld3, x_ld2, x_st3, x_st2, rm_g2, rm_g3, rm_g4, rm_g5, rm_g6, rm_g7, rm_s2, rm_s3, rm_s4, rm_s5, rm_s6, rm_s7, rm_t, c156, h0, g]
theorem t155 (hy : y M = some (.inl (10, bo10))) : ∃ y1 μ1, qR PG G (qEntry PG 155 [.ref M] (MK y μ (M + 1) s)) = some (.inl none, MK y1 μ1 (M + 15) (s + 8034)) ∧ (∀ q, q < M → y1 q = y q ∧ μ1 q = μ q) ∧ ML y1 M ∧ MA y1 M ∧ μ1 M = sv (μ M) 16 (-1) ∧ μ1 (M + 1) = bgR (fun _ => 0) ∧ ∀ j, 2 ≤ j → j ≤ 14 → μ1 (M + j) = fun _ => 0 := by
  apply Exists.intro
  apply Exists.intro
  apply And.intro
  · show qR PG G (155, K155_0, [some (.ref M)], [], MK y μ (M + 1) s) = _
    unfold K155_0
    rw [a0, c_obj (by decide)]
    rw [al_N (sh := .inr (.inl (1, 391))) kst_s hy (by decide) (by omega) (by decide) (by decide) rfl, zN391]
    rw [al_N (sh := .inr (.inl (1, 391))) kst_s yU_eq (by simp [bo10]) (by omega) (by decide) (by decide) rfl, zN391]
    rw [al_N (sh := .inr (.inl (1, 391))) kst_s yU_eq (by simp [bo10]) (by omega) (by decide) (by decide) rfl, zN391]
    rw [al_N (sh := .inr (.inl (1, 3128))) kst_s yU_eq (by simp [bo10]) (by omega) (by decide) (by decide) rfl, zN3128]
    rw [al_N (sh := .inr (.inl (1, 782))) kst_s yU_eq (by simp [bo10]) (by omega) (by decide) (by decide) rfl, zN782]
    rw [al_N (sh := .inr (.inl (4, 2))) kst_i yU_eq (by simp [bo10]) (by omega) (by decide) (by decide) rfl, zN2]
    rw [al_N (sh := .inr (.inl (2, 900))) kst_s yU_eq (by simp [bo10]) (by omega) (by decide) (by decide) rfl, zN900]
    rw [al_P kst_i yU_eq rfl]
    rw [al_N (sh := .inr (.inl (0, 6))) kst_b yU_eq (by simp [bo10]) (by omega) (by decide) (by decide) rfl, zN6]
    rw [al_N (sh := .inr (.inl (1, 6))) kst_b yU_eq (by simp [bo10]) (by omega) (by decide) (by decide) rfl, zN6]
    rw [al_N (sh := .inr (.inl (1, 6))) kst_b yU_eq (by simp [bo10]) (by omega) (by decide) (by decide) rfl, zN6]
    rw [al_N (sh := .inr (.inl (0, 6))) kst_b yU_eq (by simp [bo10]) (by omega) (by decide) (by decide) rfl, zN6]
    rw [al_N (sh := .inr (.inl (0, 6))) kst_b yU_eq (by simp [bo10]) (by omega) (by decide) (by decide) rfl, zN6]
    rw [al_N (sh := .inr (.inl (1, 2001))) kst_s yU_eq (by simp [bo10]) (by omega) (by decide) (by decide) rfl, zN2001]
    rw [al_N (sh := .inr (.inl (0, 18))) kst_b yU_eq (by simp [bo10]) (by omega) (by decide) (by decide) rfl, zN18]
    simp only [Nat.add_assoc, Nat.reduceAdd]
    exact t155_z (by rw [yU_eq]; rfl) (by repeat (first | rw [yU_eq] | rw [yU_ne (by omega)]))
  · refine ⟨fun q hq => ⟨?_, ?_⟩, ⟨?_, ?_⟩, ⟨?_, ?_, ?_, ?_, ?_, ?_, ?_, ?_, ?_, ?_, ?_, ?_, ?_⟩, ?_, ?_, fun j h1 h2 => ?_⟩
    · repeat rw [yU_ne (by omega)]
    · repeat rw [stc_ne (by omega)]
    · rw [yU_eq]; rfl
    · repeat (first | rw [yU_eq] | rw [yU_ne (by omega)])
    · repeat (first | rw [yU_eq] | rw [yU_ne (by omega)])
    · repeat (first | rw [yU_eq] | rw [yU_ne (by omega)])
    · repeat (first | rw [yU_eq] | rw [yU_ne (by omega)])
    · repeat (first | rw [yU_eq] | rw [yU_ne (by omega)])
    · repeat (first | rw [yU_eq] | rw [yU_ne (by omega)])
    · repeat (first | rw [yU_eq] | rw [yU_ne (by omega)])
    · repeat (first | rw [yU_eq] | rw [yU_ne (by omega)])
    · repeat (first | rw [yU_eq] | rw [yU_ne (by omega)])
    · repeat (first | rw [yU_eq] | rw [yU_ne (by omega)])
    · repeat (first | rw [yU_eq] | rw [yU_ne (by omega)])
    · repeat (first | rw [yU_eq] | rw [yU_ne (by omega)])
    · repeat (first | rw [yU_eq] | rw [yU_ne (by omega)])
    · repeat (first | rw [yU_eq] | rw [yU_ne (by omega)])
    · repeat (first | rw [stc_eq] | rw [stc_ne (by omega)])
      rfl
    · repeat (first | rw [stc_eq] | rw [stc_ne (by omega)])
    · have hj : j = 2 ∨ j = 3 ∨ j = 4 ∨ j = 5 ∨ j = 6 ∨ j = 7 ∨ j = 8 ∨ j = 9 ∨ j = 10 ∨ j = 11 ∨ j = 12 ∨ j = 13 ∨ j = 14 := by omega
      rcases hj with rfl | rfl | rfl | rfl | rfl | rfl | rfl | rfl | rfl | rfl | rfl | rfl | rfl <;> (repeat (first | rw [stc_eq] | rw [stc_ne (by omega)]))
end CT6
