/-! ===== The law's start ===== -/
section LWS
variable {G : qG} {y : Nat → Option qSh} {μ : qMu} {X M k n s : Nat}
theorem PR_zero {C E : Row} (h : ∀ k, k < 8 ∨ (185 ≤ k ∧ k < 191) → C k = if k = 5 then 1 else 0) (h1 : C 391 = 0) (h2 : C 392 = 0) : PR 0 C (bgR E) := by
  refine ⟨0, 0, 0, 0, 0, 1, J_zero, ⟨fun k hk => ?_, 0, by decide, rfl, ?_, ?_, fun q hq => absurd hq (by omega)⟩, ?_⟩
  · unfold Live at hk
    rw [h k (by omega)]
    unfold bgR
    by_cases h5 : k = 5
    · rw [if_pos h5, if_pos h5]
    · rw [if_neg h5, if_neg h5, if_pos (by omega)]
  · rw [h1]; rfl
  · rw [h2]; rfl
  · show (0 : Int64).toInt ≤ 20000
    decide
theorem wd_0 (hXM : X + 465 = M) (hE : EL y X) (hF : FL y (X + 415)) (hD : DL y (X + 459)) (hs : y (X + 464) = some (.inr (.inr (10, 2, fun _ => none)))) (hM : ML y M) (hA : MA y M) (hL : LO y M) (hn : M + 17 ≤ n) (m1 : μ (X + 1) = sv (fun _ => 0) 2 1) (m2 : ∀ j, 1 ≤ j → j ≤ 8 → μ (X + 1 + j) = fun _ => 0) (m42 : μ (X + 42) = sv (fun _ => 0) 6 (-1)) (m85 : μ (X + 85) = fun _ => 0) (q0 : μ M = sv (fun _ => 0) 16 (-1)) (q1 : μ (M + 1) = bgR (fun _ => 0)) (q6 : μ (M + 6) = fun _ => 0) (hT : TX G y μ X) : Wd G X M 0 y μ n := by
  refine ⟨⟨hE, hF, hD, hM, hA, by omega⟩, ⟨?_, ⟨0, 0, ⟨?_, by decide, ?_, by decide⟩, ?_, fun j hj => absurd hj (Nat.not_lt_zero _)⟩, ⟨0, 0, (0, 0, 0, -1), 0, by omega, ?_, ?_, fun i hi => absurd hi (Nat.not_lt_zero _), ?_, ?_, ?_, ?_⟩, hT⟩, ⟨fun _ => none, hs, fun q _ => Or.inl ⟨rfl, by rw [q6]; rfl⟩, fun q r B C _ _ _ h => by cases h⟩, hn, hL⟩
  · rw [q1]
    refine PR_zero (fun k hk => ?_) ?_ ?_
    · rcases hk with h | ⟨h, h'⟩
      · have hb : (bkInv k).1 = 0 ∧ ((bkInv k).2 = 2 ↔ k = 5) := by
          have hk8 : k = 0 ∨ k = 1 ∨ k = 2 ∨ k = 3 ∨ k = 4 ∨ k = 5 ∨ k = 6 ∨ k = 7 := by omega
          rcases hk8 with rfl | rfl | rfl | rfl | rfl | rfl | rfl | rfl <;> decide
        show μ (X + 1 + (bkInv k).1) (bkInv k).2 = _
        rw [hb.1, Nat.add_zero, m1, sv_get]
        by_cases h5 : k = 5
        · rw [if_pos (hb.2.mpr h5), if_pos h5]
        · rw [if_neg (fun q => h5 (hb.2.mp q)), if_neg h5]
      · have hb : bkInv k = (2, k - 185) := by
          unfold bkInv
          rw [if_neg (by omega), if_neg (by omega), if_neg (by omega), if_neg (by omega), if_neg (by omega), if_neg (by omega), if_neg (by omega), if_neg (by omega), if_neg (by omega), if_pos (by omega)]
        show μ (X + 1 + (bkInv k).1) (bkInv k).2 = _
        rw [hb, m2 2 (by omega) (by omega), if_neg (by omega)]
    · show μ (X + 1 + 7) 1 = 0
      rw [m2 7 (by omega) (by omega)]
    · show μ (X + 1 + 7) 2 = 0
      rw [m2 7 (by omega) (by omega)]
  · rw [m85]; rfl
  · rw [m85]; rfl
  · rw [q0]; rfl
  · rw [m42]
    funext k
    unfold rS sv
    dsimp only
    repeat' split
    all_goals first | rfl | omega
  · rw [q0]; rfl
  · rw [q0]; rfl
  · rw [q0]; rfl
  · rw [q0]; rfl
  · rw [q0]; rfl
theorem lw_0 (hG : y G.1 = none) (hGX : G.1 < X) (hT : TX G y μ X) : ∃ y1 μ1, qR PG G (qEntry PG 318 [.ref G.1] (MK y μ X s)) = qR PG G (318, K318_1, lwL G X (X + 465) 0, [], MK y1 μ1 (X + 465 + 17) (s + 6 + 9752 + 24 + 8034 + 1 + 1)) ∧ Wd G X (X + 465) 0 y1 μ1 (X + 465 + 17) ∧ y1 G.1 = none := by
  obtain ⟨y1, μ1, e1, f1, hE, hF, hD, hs, ⟨m1, m2⟩, m42, m43, m85⟩ := t7 (G := G) (X := X) (y := yU y X (.inl (9, bo9))) (μ := stc μ X (fun _ => 0)) (s := s + 6) yU_eq
  obtain ⟨y2, μ2, e2, f2, hM, hA, q0, q1, q2⟩ := t155 (G := G) (M := X + 465) (y := yU y1 (X + 465) (.inl (10, bo10))) (μ := stc μ1 (X + 465) (fun _ => 0)) (s := s + 6 + 9752 + 24) yU_eq
  have fy : ∀ a, a < X + 465 → y2 a = y1 a := fun a ha => by rw [(f2 a ha).1, yU_ne (by omega)]
  have fm : ∀ a, a < X + 465 → μ2 a = μ1 a := fun a ha => by rw [(f2 a ha).2, stc_ne (by omega)]
  have gy : ∀ a, a < X → y1 a = y a := fun a ha => by rw [(f1 a ha).1, yU_ne (by omega)]
  have gm : ∀ a, a < X → μ1 a = μ a := fun a ha => by rw [(f1 a ha).2, stc_ne (by omega)]
  have hy : ∀ a, a < X + 465 + 15 → yU (yU y2 (X + 465 + 15) (.inr (.inl (1, 1)))) (X + 465 + 16) (.inr (.inl (5, 1))) a = y2 a := fun a ha => by rw [yU_ne (by omega), yU_ne (by omega)]
  have hm : ∀ a, a < X + 465 + 15 → stc (stc μ2 (X + 465 + 15) (fun _ => 0)) (X + 465 + 16) (fun _ => 0) a = μ2 a := fun a ha => by rw [stc_ne (by omega), stc_ne (by omega)]
  have hy1 : ∀ a, a < X + 465 → yU (yU y2 (X + 465 + 15) (.inr (.inl (1, 1)))) (X + 465 + 16) (.inr (.inl (5, 1))) a = y1 a := fun a ha => by rw [hy a (by omega), fy a ha]
  have hm1 : ∀ a, a < X + 465 → stc (stc μ2 (X + 465 + 15) (fun _ => 0)) (X + 465 + 16) (fun _ => 0) a = μ1 a := fun a ha => by rw [hm a (by omega), fm a ha]
  refine ⟨yU (yU y2 (X + 465 + 15) (.inr (.inl (1, 1)))) (X + 465 + 16) (.inr (.inl (5, 1))), stc (stc μ2 (X + 465 + 15) (fun _ => 0)) (X + 465 + 16) (fun _ => 0), ?_, ?_, ?_⟩
  · have z1 : (1 : Int32).toNatClampNeg = 1 := rfl
    have z2 : (0 : Int32) ≤ 1 := by decide
    have z3 : X + 465 + 15 + 1 = X + 465 + 16 := rfl
    have z4 : X + 465 + 16 + 1 = X + 465 + 17 := rfl
    unfold lwL
    simp -implicitDefEqProofs only [e318, K318_0, j318_1, s_iadd, s_isub, s_imul, s_ineg, s_iand, s_ior, s_ixor, s_ishl, s_ishr, s_iushr, s_i2l, s_l2i, s_i2b, s_i2c, s_ladd, s_lsub, s_lmul, s_lneg, s_land, s_lor, s_lshl, s_lshr, s_lushr, s_lcmp, s_l2d, s_l2f, s_i2d, s_i2f, s_idiv, s_ldiv, s_irem, s_lrem, s_dcmp, s_fcmp, s_ddiv, s_fdiv, s_dup_i, s_dup_r, s_dup2_l, s_dup2_ir, s_pop, s_iconst, s_bipush, s_sipush, s_lconst, s_fconst, s_dconst, s_ldc, s_ldc_w, s_ldc2_w, s_iload, s_iload_n0, s_iload_n1, s_iload_n2, s_iload_n3, s_lload, s_lload_n0, s_lload_n1, s_lload_n2, s_lload_n3, s_fload, s_fload_n0, s_fload_n1, s_fload_n2, s_fload_n3, s_dload, s_dload_n0, s_dload_n1, s_dload_n2, s_dload_n3, s_aload, s_aload_n0, s_aload_n1, s_aload_n2, s_aload_n3, s_istore, s_istore_n0, s_istore_n1, s_istore_n2, s_istore_n3, s_lstore, s_lstore_n0, s_lstore_n1, s_lstore_n2, s_lstore_n3, s_fstore, s_fstore_n0, s_fstore_n1, s_fstore_n2, s_fstore_n3, s_dstore, s_dstore_n0, s_dstore_n1, s_dstore_n2, s_dstore_n3, s_astore, s_astore_n0, s_astore_n1, s_astore_n2, s_astore_n3, s_astoreN_n, s_iinc, s_if_eq, s_if_lt, s_if_ge, s_if_gt, s_if_le, s_if_ne, s_ic_eq, s_ic_lt, s_ic_ge, s_ic_gt, s_ic_le, s_ic_ne, s_ifnn_r, s_ifnn_n, s_goto, s_nop, s_tab, s_getfield, s_putfield, s_anewarray, s_newarray, s_baload, s_caload, s_laload, s_daload, s_aaload, s_iastore, s_bastore, s_castore, s_lastore, s_dastore, s_aastore, s_lreturn, s_freturn, s_dreturn, s_areturn, s_return, s_new, s_thr, ld_Z, ld_S, kl_Z, pd_0, pd_c, pd_n, ag_i, ag_r, ag_l, ag_n, st_Z, st_On, st_Oi, st_Or, st_Ol, st_S, s2_eq, mk_t, mk_f, mk_n, cl_v, cl_n, cl_if, vl_0, vl_1, vl_2, cv_i, cv_l, cv_d, cv_f, rf_s, qW_n, qW_i, qW_l, qW_r, x_get, x_putI, x_putL, x_ldL, x_ldI, x_ldA, x_stL, x_stI, x_isO, MK_1, MK_21, List.set_cons_zero, List.set_cons_succ, List.getElem?_cons_zero, List.getElem?_cons_succ, Option.map_some, List.tail_cons, i64_32, Nat.zero_add, Nat.reduceAdd, Nat.reduceLeDiff, Nat.le_refl, if_true, if_false, ite_true, ite_false, reduceIte, lnO, rfO, fn_0, f_0_0, f_0_1, f_0_2, f_0_3, f_0_4, f_0_5, f_0_6, f_0_7, f_0_8, f_0_9, f_0_10, f_0_11, f_0_12, f_0_13, f_0_14, fn_1, f_1_0, f_1_1, f_1_2, f_1_3, f_1_4, fn_2, f_2_0, f_2_1, f_2_2, f_2_3, f_2_4, f_2_5, fn_3, f_3_0, f_3_1, f_3_2, f_3_3, fn_4, f_4_0, f_4_1, f_4_2, f_4_3, f_4_4, f_4_5, fn_5, f_5_0, f_5_1, f_5_2, fn_6, f_6_0, f_6_1, f_6_2, fn_7, f_7_0, f_7_1, f_7_2, f_7_3, f_7_4, fn_8, f_8_0, f_8_1, f_8_2, f_8_3, f_8_4, f_8_5, f_8_6, f_8_7, fn_9, f_9_0, f_9_1, f_9_2, f_9_3, f_9_4, f_9_5, fn_10, f_10_0, f_10_1, f_10_2, f_10_3, f_10_4, f_10_5, f_10_6, f_10_7, f_10_8, f_10_9, f_10_10, f_10_11, f_10_12, f_10_13, f_10_14, f_10_15, f_10_16, f_10_17, f_10_18, f_10_19, f_10_20, f_10_21, f_10_22, f_10_23, Nat.reduceLT, qMem, c7, c155, nw9, nw10, nwL, nwD, e1, e2, z1, z2, z3, z4, and_self, true_and]
  · refine wd_0 rfl ⟨?_, ?_, ?_, ?_⟩ ?_ ?_ ?_ ⟨?_, ?_⟩ ?_ ⟨?_, ?_⟩ (Nat.le_refl _) ?_ (fun j h1 h2 => ?_) ?_ ?_ ?_ ?_ ?_ ?_
    · rw [hy1 _ (by omega)]; exact hE.1
    · exact hE.2.1.of fun a h1 h2 => hy1 a (by omega)
    · exact hE.2.2.1.of fun a h1 h2 => hy1 a (by omega)
    · exact hE.2.2.2.of fun a h1 h2 => hy1 a (by omega)
    · exact hF.of fun a h1 h2 => hy1 a (by omega)
    · exact hD.of fun a h1 h2 => hy1 a (by omega)
    · rw [hy1 _ (by omega)]; exact hs
    · rw [hy _ (by omega)]; exact hM.1
    · rw [hy _ (by omega)]; exact hM.2
    · obtain ⟨a2, a3, a4, a5, a6, a7, a8, a9, a10, a11, a12, a13, a14⟩ := hA
      exact ⟨by rw [hy _ (by omega)]; exact a2, by rw [hy _ (by omega)]; exact a3, by rw [hy _ (by omega)]; exact a4, by rw [hy _ (by omega)]; exact a5, by rw [hy _ (by omega)]; exact a6, by rw [hy _ (by omega)]; exact a7, by rw [hy _ (by omega)]; exact a8, by rw [hy _ (by omega)]; exact a9, by rw [hy _ (by omega)]; exact a10, by rw [hy _ (by omega)]; exact a11, by rw [hy _ (by omega)]; exact a12, by rw [hy _ (by omega)]; exact a13, by rw [hy _ (by omega)]; exact a14⟩
    · rw [yU_ne (by omega), yU_eq]
    · rw [yU_eq]
    · rw [hm1 _ (by omega)]; exact m1
    · rw [hm1 _ (by omega)]; exact m2 j h1 h2
    · rw [hm1 _ (by omega)]; exact m42
    · rw [hm1 _ (by omega)]; exact m85
    · rw [hm _ (by omega), q0, stc_eq]
    · rw [hm _ (by omega)]; exact q1
    · rw [hm _ (by omega)]; exact q2 6 (by omega) (by omega)
    · exact (hT.sh (fun a ha => by rw [hy1 a (by omega), gy a ha]) (fun a ha => by rw [hm1 a (by omega), gm a ha]))
  · rw [hy1 _ (by omega), gy _ hGX]; exact hG
theorem lw_run (hL : G.2.1 ≤ 3072) (hG : y G.1 = none) (hGX : G.1 < X) (hT : TX G y μ X) : ∃ y1 μ1 n1 s1, qR PG G (qEntry PG 318 [.ref G.1] (MK y μ X 0)) = some (.inl (some (.int 1)), MK y1 μ1 n1 s1) ∧ n1 ≤ X + 22000 ∧ s1 ≤ 250000 := by
  obtain ⟨y1, μ1, e, hW, hG1⟩ := lw_0 (s := 0) hG hGX hT
  obtain ⟨y2, μ2, n2, s2, e2, d1, d2⟩ := lw_loop hL hGX (G.2.1 / 6) 0 y1 μ1 (X + 465 + 17) (0 + 6 + 9752 + 24 + 8034 + 1 + 1) (by omega) (by omega) hW hG1
  exact ⟨y2, μ2, n2, s2, e.trans e2, by omega, by omega⟩
end LWS
