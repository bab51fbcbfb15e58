/-! ===== What is made new, 3: a Book ===== -/
section CT3
variable {G : qG} {y : Nat → Option qSh} {μ ν : qMu} {n s a b : Nat}
def yL (y : Nat → Option qSh) (r base ci t len i : Nat) : Nat → Option qSh := fun q => if q = r then some (.inr (.inr (t, len, rfs base i))) else if base ≤ q ∧ q < base + i then some (.inl (ci, shF ci q)) else y q
def mL (μ : qMu) (base : Nat) (d : Nat → Int64) (i : Nat) : qMu := fun q => if base ≤ q ∧ q < base + i then d else μ q
theorem yL_s {r base ci t len i : Nat} (hr : r < base) : yU (yU (yL y r base ci t len i) (base + i) (.inl (ci, shF ci (base + i)))) r (.inr (.inr (t, len, va_up (rfs base i) i (some (base + i))))) = yL y r base ci t len (i + 1) := by
  funext q
  unfold yU yL
  by_cases h : q = r
  · rw [if_pos h, if_pos h]
    refine congrArg (fun f => some (Sum.inr (Sum.inr (t, len, f)))) ?_
    funext j
    unfold va_up rfs
    by_cases hj : j = i
    · rw [if_pos hj, if_pos (by omega), hj]
    · rw [if_neg hj]
      by_cases h2 : j < i
      · rw [if_pos h2, if_pos (by omega)]
      · rw [if_neg h2, if_neg (by omega)]
  · rw [if_neg h, if_neg h]
    by_cases h2 : q = base + i
    · rw [if_pos h2, if_neg h, if_pos (by omega), h2]
    · rw [if_neg h2, if_neg h]
      by_cases h3 : base ≤ q ∧ q < base + i
      · rw [if_pos h3, if_pos (by omega)]
      · rw [if_neg h3, if_neg (by omega)]
theorem mL_s {base i : Nat} {d e : Nat → Int64} : stc (stc (mL μ base d i) (base + i) e) (base + i) d = mL μ base d (i + 1) := by
  funext q
  rw [stc_stc]
  unfold stc mL
  by_cases h : q = base + i
  · rw [if_pos h, if_pos (by omega)]
  · rw [if_neg h]
    by_cases h3 : base ≤ q ∧ q < base + i
    · rw [if_pos h3, if_pos (by omega)]
    · rw [if_neg h3, if_neg (by omega)]
theorem yL_0 {r base ci t len : Nat} (h : y r = some (.inr (.inr (t, len, fun _ => none)))) : yL y r base ci t len 0 = y := by
  funext q
  unfold yL
  by_cases hq : q = r
  · rw [if_pos hq, hq, h]
    refine congrArg (fun f => some (Sum.inr (Sum.inr (t, len, f)))) ?_
    funext j
    unfold rfs
    rw [if_neg (by omega)]
  · rw [if_neg hq, if_neg (by omega)]
theorem mL_0 {base : Nat} {d : Nat → Int64} : mL μ base d 0 = μ := by
  funext q
  unfold mL
  rw [if_neg (by omega)]
theorem yL_o {r base ci t len i q : Nat} (h : q ≠ r) (h2 : q < base ∨ base + i ≤ q) : yL y r base ci t len i q = y q := by
  unfold yL
  rw [if_neg h, if_neg (by omega)]
theorem yL_r {r base ci t len i : Nat} : yL y r base ci t len i r = some (.inr (.inr (t, len, rfs base i))) := if_pos rfl
theorem yL_i {r base ci t len i j : Nat} (hr : r < base) (hj : j < i) : yL y r base ci t len i (base + j) = some (.inl (ci, shF ci (base + j))) := by
  unfold yL
  rw [if_neg (by omega), if_pos (by omega)]
theorem mL_o {base i q : Nat} {d : Nat → Int64} (h2 : q < base ∨ base + i ≤ q) : mL μ base d i q = μ q := by
  unfold mL
  rw [if_neg (by omega)]
def ini2 : Nat → Int64 := sv (fun _ => 0) 5 (-1)
def ini4 : Nat → Int64 := sv (sv (fun _ => 0) 1 1) 2 (-1)
def ini7 : Nat → Int64 := sv (sv (fun _ => 0) 0 (-1)) 3 (-1)
theorem t8_1 (hb : y b = some (.inl (0, shF 0 b))) (hbr : b < n) {r : Nat} (hr : r = b + 3) (hrn : r < n) (hr2 : y r = some (.inr (.inr (12, 10, fun _ => none)))) : ∀ i, i ≤ 10 → qR PG G (8, K8_1, [some (.ref b), some (.int (nI 0))], [], MK y μ n s) = qR PG G (8, K8_1, [some (.ref b), some (.int (nI i))], [], MK (yL y r n 2 12 10 i) (mL μ n ini2 i) (n + i) (s + 6 * i))
  | 0, _ => by rw [yL_0 hr2, mL_0]; rfl
  | i + 1, hi => by
    rw [t8_1 hb hbr hr hrn hr2 i (by omega)]
    have i1 : ¬ nI 10 ≤ nI i := by rw [mI_le (by omega) (by omega)]; omega
    have i2 : ¬ (10 : Int32) ≤ nI i := i1
    have g1 : qGetF (MK (yL y r n 2 12 10 i) (mL μ n ini2 i) (n + i) (s + 6 * i)) 0 10 b = some (.ref r) := by
      rw [g_get (fds := shF 0 b) (by rw [yL_o (by omega) (by omega)]; exact hb), hr]
      rfl
    have g2 := t10 (G := G) (a := n + i) (y := yU (yL y r n 2 12 10 i) (n + i) (.inl (2, shF 2 (n + i)))) (μ := stc (mL μ n ini2 i) (n + i) (fun _ => 0)) (n := n + i + 1) (s := s + 6 * i + 6) yU_eq
    have g3 := aR (a := r) (t := 12) (len := 10) (v := n + i) (i := nI i) (f := rfs n i) (y := yU (yL y r n 2 12 10 i) (n + i) (.inl (2, shF 2 (n + i)))) (μ := stc (stc (mL μ n ini2 i) (n + i) (fun _ => 0)) (n + i) ini2) (n := n + i + 1) (s := s + 6 * i + 6) (by rw [yU_ne (by omega)]; exact yL_r) (by decide) (ixok_n (by omega) (by decide)) (isO (fds := shF 2 (n + i)) yU_eq)
    rw [nI_clamp (by omega), yL_s (by omega), mL_s] at g3
    rw [stc_eq, show sv (fun _ => (0 : Int64)) 5 (-1) = ini2 from rfl, mL_s] at g2
    rw [show n + (i + 1) = n + i + 1 from rfl, show s + 6 * (i + 1) = s + 6 * i + 6 by omega]
    conv => lhs; unfold K8_1
    simp -implicitDefEqProofs only [j8_1, s_iadd, s_isub, s_imul, s_ineg, s_iand, s_ior, s_ixor, s_ishl, s_ishr, s_iushr, s_i2l, s_l2i, s_i2b, s_i2c, s_ladd, s_lsub, s_lmul, s_lneg, s_land, s_lor, s_lshl, s_lshr, s_lushr, s_lcmp, s_l2d, s_l2f, s_i2d, s_i2f, s_idiv, s_ldiv, s_irem, s_lrem, s_dcmp, s_fcmp, s_ddiv, s_fdiv, s_f2d, s_dup_i, s_dup_r, s_dup2_l, s_dup2_ir, s_pop, s_iconst, s_bipush, s_sipush, s_lconst, s_fconst, s_dconst, s_ldc, s_ldc_w, s_ldc2_w, s_iload, s_iload_n0, s_iload_n1, s_iload_n2, s_iload_n3, s_lload, s_lload_n0, s_lload_n1, s_lload_n2, s_lload_n3, s_fload, s_fload_n0, s_fload_n1, s_fload_n2, s_fload_n3, s_dload, s_dload_n0, s_dload_n1, s_dload_n2, s_dload_n3, s_aload, s_aload_n0, s_aload_n1, s_aload_n2, s_aload_n3, s_istore, s_istore_n0, s_istore_n1, s_istore_n2, s_istore_n3, s_lstore, s_lstore_n0, s_lstore_n1, s_lstore_n2, s_lstore_n3, s_fstore, s_fstore_n0, s_fstore_n1, s_fstore_n2, s_fstore_n3, s_dstore, s_dstore_n0, s_dstore_n1, s_dstore_n2, s_dstore_n3, s_astore, s_astore_n0, s_astore_n1, s_astore_n2, s_astore_n3, s_astoreN_n, s_iinc, s_if_eq, s_if_lt, s_if_ge, s_if_gt, s_if_le, s_if_ne, s_ic_eq, s_ic_lt, s_ic_ge, s_ic_gt, s_ic_le, s_ic_ne, s_ifnn_r, s_ifnn_n, s_goto, s_nop, s_tab, s_getfield, s_putfield, s_anewarray, s_newarray, s_iaload, s_baload, s_caload, s_laload, s_daload, s_aaload, s_iastore, s_bastore, s_castore, s_lastore, s_dastore, s_aastore, s_arraylength, s_lreturn, s_freturn, s_dreturn, s_areturn, s_return, s_new, s_thr, ld_Z, ld_S, kl_Z, pd_0, pd_c, pd_n, ag_i, ag_r, ag_l, ag_n, st_Z, st_On, st_Oi, st_Or, st_Ol, st_S, s2_eq, mk_t, mk_f, mk_n, cl_v, cl_n, cl_if, vl_0, vl_1, vl_2, cv_i, cv_l, cv_d, cv_f, rf_s, qW_n, qW_i, qW_l, qW_r, qMem, x_get, x_putI, x_putL, x_ldL, x_ldI, x_ldA, x_stL, x_stI, x_isO, MK_1, MK_21, List.set_cons_zero, List.set_cons_succ, List.getElem?_cons_zero, List.getElem?_cons_succ, Option.map_some, List.tail_cons, i64_32, Nat.zero_add, Nat.reduceAdd, Nat.reduceLeDiff, Nat.le_refl, if_true, if_false, ite_true, ite_false, reduceIte, lnO, rfO, fn_0, f_0_0, f_0_1, f_0_2, f_0_3, f_0_4, f_0_5, f_0_6, f_0_7, f_0_8, f_0_9, f_0_10, f_0_11, f_0_12, f_0_13, f_0_14, fn_1, f_1_0, f_1_1, f_1_2, f_1_3, f_1_4, fn_2, f_2_0, f_2_1, f_2_2, f_2_3, f_2_4, f_2_5, fn_3, f_3_0, f_3_1, f_3_2, f_3_3, fn_4, f_4_0, f_4_1, f_4_2, f_4_3, f_4_4, f_4_5, fn_5, f_5_0, f_5_1, f_5_2, fn_6, f_6_0, f_6_1, f_6_2, fn_7, f_7_0, f_7_1, f_7_2, f_7_3, f_7_4, fn_8, f_8_0, f_8_1, f_8_2, f_8_3, f_8_4, f_8_5, f_8_6, f_8_7, fn_9, f_9_0, f_9_1, f_9_2, f_9_3, f_9_4, f_9_5, fn_10, f_10_0, f_10_1, f_10_2, f_10_3, f_10_4, f_10_5, f_10_6, f_10_7, f_10_8, f_10_9, f_10_10, f_10_11, f_10_12, f_10_13, f_10_14, f_10_15, f_10_16, f_10_17, f_10_18, f_10_19, f_10_20, f_10_21, f_10_22, f_10_23, Nat.reduceLT, cv_t, x_ld3, x_ld2, x_st3, x_st2, rm_g2, rm_g3, rm_g4, rm_g5, rm_g6, rm_g7, rm_s2, rm_s3, rm_s4, rm_s5, rm_s6, rm_s7, rm_t, c10, g1, g2, g3, nw2, i1, i2, mI_inc]
theorem t8_3 (hb : y b = some (.inl (0, shF 0 b))) (hbr : b < n) {r : Nat} (hr : r = b + 4) (hrn : r < n) (hr2 : y r = some (.inr (.inr (14, 6, fun _ => none)))) : ∀ i, i ≤ 6 → qR PG G (8, K8_3, [some (.ref b), some (.int (nI 0))], [], MK y μ n s) = qR PG G (8, K8_3, [some (.ref b), some (.int (nI i))], [], MK (yL y r n 4 14 6 i) (mL μ n ini4 i) (n + i) (s + 6 * i))
  | 0, _ => by rw [yL_0 hr2, mL_0]; rfl
  | i + 1, hi => by
    rw [t8_3 hb hbr hr hrn hr2 i (by omega)]
    have i1 : ¬ nI 6 ≤ nI i := by rw [mI_le (by omega) (by omega)]; omega
    have i2 : ¬ (6 : Int32) ≤ nI i := i1
    have g1 : qGetF (MK (yL y r n 4 14 6 i) (mL μ n ini4 i) (n + i) (s + 6 * i)) 0 11 b = some (.ref r) := by
      rw [g_get (fds := shF 0 b) (by rw [yL_o (by omega) (by omega)]; exact hb), hr]
      rfl
    have g2 := t11 (G := G) (a := n + i) (y := yU (yL y r n 4 14 6 i) (n + i) (.inl (4, shF 4 (n + i)))) (μ := stc (mL μ n ini4 i) (n + i) (fun _ => 0)) (n := n + i + 1) (s := s + 6 * i + 6) yU_eq
    have g3 := aR (a := r) (t := 14) (len := 6) (v := n + i) (i := nI i) (f := rfs n i) (y := yU (yL y r n 4 14 6 i) (n + i) (.inl (4, shF 4 (n + i)))) (μ := stc (stc (mL μ n ini4 i) (n + i) (fun _ => 0)) (n + i) ini4) (n := n + i + 1) (s := s + 6 * i + 6) (by rw [yU_ne (by omega)]; exact yL_r) (by decide) (ixok_n (by omega) (by decide)) (isO (fds := shF 4 (n + i)) yU_eq)
    rw [nI_clamp (by omega), yL_s (by omega), mL_s] at g3
    rw [stc_eq, show sv (sv (fun _ => (0 : Int64)) 1 1) 2 (-1) = ini4 from rfl, mL_s] at g2
    rw [show n + (i + 1) = n + i + 1 from rfl, show s + 6 * (i + 1) = s + 6 * i + 6 by omega]
    conv => lhs; unfold K8_3
    simp -implicitDefEqProofs only [j8_3, s_iadd, s_isub, s_imul, s_ineg, s_iand, s_ior, s_ixor, s_ishl, s_ishr, s_iushr, s_i2l, s_l2i, s_i2b, s_i2c, s_ladd, s_lsub, s_lmul, s_lneg, s_land, s_lor, s_lshl, s_lshr, s_lushr, s_lcmp, s_l2d, s_l2f, s_i2d, s_i2f, s_idiv, s_ldiv, s_irem, s_lrem, s_dcmp, s_fcmp, s_ddiv, s_fdiv, s_f2d, s_dup_i, s_dup_r, s_dup2_l, s_dup2_ir, s_pop, s_iconst, s_bipush, s_sipush, s_lconst, s_fconst, s_dconst, s_ldc, s_ldc_w, s_ldc2_w, s_iload, s_iload_n0, s_iload_n1, s_iload_n2, s_iload_n3, s_lload, s_lload_n0, s_lload_n1, s_lload_n2, s_lload_n3, s_fload, s_fload_n0, s_fload_n1, s_fload_n2, s_fload_n3, s_dload, s_dload_n0, s_dload_n1, s_dload_n2, s_dload_n3, s_aload, s_aload_n0, s_aload_n1, s_aload_n2, s_aload_n3, s_istore, s_istore_n0, s_istore_n1, s_istore_n2, s_istore_n3, s_lstore, s_lstore_n0, s_lstore_n1, s_lstore_n2, s_lstore_n3, s_fstore, s_fstore_n0, s_fstore_n1, s_fstore_n2, s_fstore_n3, s_dstore, s_dstore_n0, s_dstore_n1, s_dstore_n2, s_dstore_n3, s_astore, s_astore_n0, s_astore_n1, s_astore_n2, s_astore_n3, s_astoreN_n, s_iinc, s_if_eq, s_if_lt, s_if_ge, s_if_gt, s_if_le, s_if_ne, s_ic_eq, s_ic_lt, s_ic_ge, s_ic_gt, s_ic_le, s_ic_ne, s_ifnn_r, s_ifnn_n, s_goto, s_nop, s_tab, s_getfield, s_putfield, s_anewarray, s_newarray, s_iaload, s_baload, s_caload, s_laload, s_daload, s_aaload, s_iastore, s_bastore, s_castore, s_lastore, s_dastore, s_aastore, s_arraylength, s_lreturn, s_freturn, s_dreturn, s_areturn, s_return, s_new, s_thr, ld_Z, ld_S, kl_Z, pd_0, pd_c, pd_n, ag_i, ag_r, ag_l, ag_n, st_Z, st_On, st_Oi, st_Or, st_Ol, st_S, s2_eq, mk_t, mk_f, mk_n, cl_v, cl_n, cl_if, vl_0, vl_1, vl_2, cv_i, cv_l, cv_d, cv_f, rf_s, qW_n, qW_i, qW_l, qW_r, qMem, x_get, x_putI, x_putL, x_ldL, x_ldI, x_ldA, x_stL, x_stI, x_isO, MK_1, MK_21, List.set_cons_zero, List.set_cons_succ, List.getElem?_cons_zero, List.getElem?_cons_succ, Option.map_some, List.tail_cons, i64_32, Nat.zero_add, Nat.reduceAdd, Nat.reduceLeDiff, Nat.le_refl, if_true, if_false, ite_true, ite_false, reduceIte, lnO, rfO, fn_0, f_0_0, f_0_1, f_0_2, f_0_3, f_0_4, f_0_5, f_0_6, f_0_7, f_0_8, f_0_9, f_0_10, f_0_11, f_0_12, f_0_13, f_0_14, fn_1, f_1_0, f_1_1, f_1_2, f_1_3, f_1_4, fn_2, f_2_0, f_2_1, f_2_2, f_2_3, f_2_4, f_2_5, fn_3, f_3_0, f_3_1, f_3_2, f_3_3, fn_4, f_4_0, f_4_1, f_4_2, f_4_3, f_4_4, f_4_5, fn_5, f_5_0, f_5_1, f_5_2, fn_6, f_6_0, f_6_1, f_6_2, fn_7, f_7_0, f_7_1, f_7_2, f_7_3, f_7_4, fn_8, f_8_0, f_8_1, f_8_2, f_8_3, f_8_4, f_8_5, f_8_6, f_8_7, fn_9, f_9_0, f_9_1, f_9_2, f_9_3, f_9_4, f_9_5, fn_10, f_10_0, f_10_1, f_10_2, f_10_3, f_10_4, f_10_5, f_10_6, f_10_7, f_10_8, f_10_9, f_10_10, f_10_11, f_10_12, f_10_13, f_10_14, f_10_15, f_10_16, f_10_17, f_10_18, f_10_19, f_10_20, f_10_21, f_10_22, f_10_23, Nat.reduceLT, cv_t, x_ld3, x_ld2, x_st3, x_st2, rm_g2, rm_g3, rm_g4, rm_g5, rm_g6, rm_g7, rm_s2, rm_s3, rm_s4, rm_s5, rm_s6, rm_s7, rm_t, c11, g1, g2, g3, nw4, i1, i2, mI_inc]
theorem t8_5 (hb : y b = some (.inl (0, shF 0 b))) (hbr : b < n) {r : Nat} (hr : r = b + 5) (hrn : r < n) (hr2 : y r = some (.inr (.inr (17, 4, fun _ => none)))) : ∀ i, i ≤ 4 → qR PG G (8, K8_5, [some (.ref b), some (.int (nI 0))], [], MK y μ n s) = qR PG G (8, K8_5, [some (.ref b), some (.int (nI i))], [], MK (yL y r n 7 17 4 i) (mL μ n ini7 i) (n + i) (s + 5 * i))
  | 0, _ => by rw [yL_0 hr2, mL_0]; rfl
  | i + 1, hi => by
    rw [t8_5 hb hbr hr hrn hr2 i (by omega)]
    have i1 : ¬ nI 4 ≤ nI i := by rw [mI_le (by omega) (by omega)]; omega
    have i2 : ¬ (4 : Int32) ≤ nI i := i1
    have g1 : qGetF (MK (yL y r n 7 17 4 i) (mL μ n ini7 i) (n + i) (s + 5 * i)) 0 12 b = some (.ref r) := by
      rw [g_get (fds := shF 0 b) (by rw [yL_o (by omega) (by omega)]; exact hb), hr]
      rfl
    have g2 := t12 (G := G) (a := n + i) (y := yU (yL y r n 7 17 4 i) (n + i) (.inl (7, shF 7 (n + i)))) (μ := stc (mL μ n ini7 i) (n + i) (fun _ => 0)) (n := n + i + 1) (s := s + 5 * i + 5) yU_eq
    have g3 := aR (a := r) (t := 17) (len := 4) (v := n + i) (i := nI i) (f := rfs n i) (y := yU (yL y r n 7 17 4 i) (n + i) (.inl (7, shF 7 (n + i)))) (μ := stc (stc (mL μ n ini7 i) (n + i) (fun _ => 0)) (n + i) ini7) (n := n + i + 1) (s := s + 5 * i + 5) (by rw [yU_ne (by omega)]; exact yL_r) (by decide) (ixok_n (by omega) (by decide)) (isO (fds := shF 7 (n + i)) yU_eq)
    rw [nI_clamp (by omega), yL_s (by omega), mL_s] at g3
    rw [stc_eq, show sv (sv (fun _ => (0 : Int64)) 0 (-1)) 3 (-1) = ini7 from rfl, mL_s] at g2
    rw [show n + (i + 1) = n + i + 1 from rfl, show s + 5 * (i + 1) = s + 5 * i + 5 by omega]
    conv => lhs; unfold K8_5
    simp -implicitDefEqProofs only [j8_5, s_iadd, s_isub, s_imul, s_ineg, s_iand, s_ior, s_ixor, s_ishl, s_ishr, s_iushr, s_i2l, s_l2i, s_i2b, s_i2c, s_ladd, s_lsub, s_lmul, s_lneg, s_land, s_lor, s_lshl, s_lshr, s_lushr, s_lcmp, s_l2d, s_l2f, s_i2d, s_i2f, s_idiv, s_ldiv, s_irem, s_lrem, s_dcmp, s_fcmp, s_ddiv, s_fdiv, s_f2d, s_dup_i, s_dup_r, s_dup2_l, s_dup2_ir, s_pop, s_iconst, s_bipush, s_sipush, s_lconst, s_fconst, s_dconst, s_ldc, s_ldc_w, s_ldc2_w, s_iload, s_iload_n0, s_iload_n1, s_iload_n2, s_iload_n3, s_lload, s_lload_n0, s_lload_n1, s_lload_n2, s_lload_n3, s_fload, s_fload_n0, s_fload_n1, s_fload_n2, s_fload_n3, s_dload, s_dload_n0, s_dload_n1, s_dload_n2, s_dload_n3, s_aload, s_aload_n0, s_aload_n1, s_aload_n2, s_aload_n3, s_istore, s_istore_n0, s_istore_n1, s_istore_n2, s_istore_n3, s_lstore, s_lstore_n0, s_lstore_n1, s_lstore_n2, s_lstore_n3, s_fstore, s_fstore_n0, s_fstore_n1, s_fstore_n2, s_fstore_n3, s_dstore, s_dstore_n0, s_dstore_n1, s_dstore_n2, s_dstore_n3, s_astore, s_astore_n0, s_astore_n1, s_astore_n2, s_astore_n3, s_astoreN_n, s_iinc, s_if_eq, s_if_lt, s_if_ge, s_if_gt, s_if_le, s_if_ne, s_ic_eq, s_ic_lt, s_ic_ge, s_ic_gt, s_ic_le, s_ic_ne, s_ifnn_r, s_ifnn_n, s_goto, s_nop, s_tab, s_getfield, s_putfield, s_anewarray, s_newarray, s_iaload, s_baload, s_caload, s_laload, s_daload, s_aaload, s_iastore, s_bastore, s_castore, s_lastore, s_dastore, s_aastore, s_arraylength, s_lreturn, s_freturn, s_dreturn, s_areturn, s_return, s_new, s_thr, ld_Z, ld_S, kl_Z, pd_0, pd_c, pd_n, ag_i, ag_r, ag_l, ag_n, st_Z, st_On, st_Oi, st_Or, st_Ol, st_S, s2_eq, mk_t, mk_f, mk_n, cl_v, cl_n, cl_if, vl_0, vl_1, vl_2, cv_i, cv_l, cv_d, cv_f, rf_s, qW_n, qW_i, qW_l, qW_r, qMem, x_get, x_putI, x_putL, x_ldL, x_ldI, x_ldA, x_stL, x_stI, x_isO, MK_1, MK_21, List.set_cons_zero, List.set_cons_succ, List.getElem?_cons_zero, List.getElem?_cons_succ, Option.map_some, List.tail_cons, i64_32, Nat.zero_add, Nat.reduceAdd, Nat.reduceLeDiff, Nat.le_refl, if_true, if_false, ite_true, ite_false, reduceIte, lnO, rfO, fn_0, f_0_0, f_0_1, f_0_2, f_0_3, f_0_4, f_0_5, f_0_6, f_0_7, f_0_8, f_0_9, f_0_10, f_0_11, f_0_12, f_0_13, f_0_14, fn_1, f_1_0, f_1_1, f_1_2, f_1_3, f_1_4, fn_2, f_2_0, f_2_1, f_2_2, f_2_3, f_2_4, f_2_5, fn_3, f_3_0, f_3_1, f_3_2, f_3_3, fn_4, f_4_0, f_4_1, f_4_2, f_4_3, f_4_4, f_4_5, fn_5, f_5_0, f_5_1, f_5_2, fn_6, f_6_0, f_6_1, f_6_2, fn_7, f_7_0, f_7_1, f_7_2, f_7_3, f_7_4, fn_8, f_8_0, f_8_1, f_8_2, f_8_3, f_8_4, f_8_5, f_8_6, f_8_7, fn_9, f_9_0, f_9_1, f_9_2, f_9_3, f_9_4, f_9_5, fn_10, f_10_0, f_10_1, f_10_2, f_10_3, f_10_4, f_10_5, f_10_6, f_10_7, f_10_8, f_10_9, f_10_10, f_10_11, f_10_12, f_10_13, f_10_14, f_10_15, f_10_16, f_10_17, f_10_18, f_10_19, f_10_20, f_10_21, f_10_22, f_10_23, Nat.reduceLT, cv_t, x_ld3, x_ld2, x_st3, x_st2, rm_g2, rm_g3, rm_g4, rm_g5, rm_g6, rm_g7, rm_s2, rm_s3, rm_s4, rm_s5, rm_s6, rm_s7, rm_t, c12, g1, g2, g3, nw7, i1, i2, mI_inc]
theorem t8_7 (hb : y b = some (.inl (0, shF 0 b))) (hbr : b < n) {r : Nat} (hr : r = b + 6) (hrn : r < n) (hr2 : y r = some (.inr (.inr (17, 12, fun _ => none)))) : ∀ i, i ≤ 12 → qR PG G (8, K8_7, [some (.ref b), some (.int (nI 0))], [], MK y μ n s) = qR PG G (8, K8_7, [some (.ref b), some (.int (nI i))], [], MK (yL y r n 7 17 12 i) (mL μ n ini7 i) (n + i) (s + 5 * i))
  | 0, _ => by rw [yL_0 hr2, mL_0]; rfl
  | i + 1, hi => by
    rw [t8_7 hb hbr hr hrn hr2 i (by omega)]
    have i1 : ¬ nI 12 ≤ nI i := by rw [mI_le (by omega) (by omega)]; omega
    have i2 : ¬ (12 : Int32) ≤ nI i := i1
    have g1 : qGetF (MK (yL y r n 7 17 12 i) (mL μ n ini7 i) (n + i) (s + 5 * i)) 0 13 b = some (.ref r) := by
      rw [g_get (fds := shF 0 b) (by rw [yL_o (by omega) (by omega)]; exact hb), hr]
      rfl
    have g2 := t12 (G := G) (a := n + i) (y := yU (yL y r n 7 17 12 i) (n + i) (.inl (7, shF 7 (n + i)))) (μ := stc (mL μ n ini7 i) (n + i) (fun _ => 0)) (n := n + i + 1) (s := s + 5 * i + 5) yU_eq
    have g3 := aR (a := r) (t := 17) (len := 12) (v := n + i) (i := nI i) (f := rfs n i) (y := yU (yL y r n 7 17 12 i) (n + i) (.inl (7, shF 7 (n + i)))) (μ := stc (stc (mL μ n ini7 i) (n + i) (fun _ => 0)) (n + i) ini7) (n := n + i + 1) (s := s + 5 * i + 5) (by rw [yU_ne (by omega)]; exact yL_r) (by decide) (ixok_n (by omega) (by decide)) (isO (fds := shF 7 (n + i)) yU_eq)
    rw [nI_clamp (by omega), yL_s (by omega), mL_s] at g3
    rw [stc_eq, show sv (sv (fun _ => (0 : Int64)) 0 (-1)) 3 (-1) = ini7 from rfl, mL_s] at g2
    rw [show n + (i + 1) = n + i + 1 from rfl, show s + 5 * (i + 1) = s + 5 * i + 5 by omega]
    conv => lhs; unfold K8_7
    simp -implicitDefEqProofs only [j8_7, s_iadd, s_isub, s_imul, s_ineg, s_iand, s_ior, s_ixor, s_ishl, s_ishr, s_iushr, s_i2l, s_l2i, s_i2b, s_i2c, s_ladd, s_lsub, s_lmul, s_lneg, s_land, s_lor, s_lshl, s_lshr, s_lushr, s_lcmp, s_l2d, s_l2f, s_i2d, s_i2f, s_idiv, s_ldiv, s_irem, s_lrem, s_dcmp, s_fcmp, s_ddiv, s_fdiv, s_f2d, s_dup_i, s_dup_r, s_dup2_l, s_dup2_ir, s_pop, s_iconst, s_bipush, s_sipush, s_lconst, s_fconst, s_dconst, s_ldc, s_ldc_w, s_ldc2_w, s_iload, s_iload_n0, s_iload_n1, s_iload_n2, s_iload_n3, s_lload, s_lload_n0, s_lload_n1, s_lload_n2, s_lload_n3, s_fload, s_fload_n0, s_fload_n1, s_fload_n2, s_fload_n3, s_dload, s_dload_n0, s_dload_n1, s_dload_n2, s_dload_n3, s_aload, s_aload_n0, s_aload_n1, s_aload_n2, s_aload_n3, s_istore, s_istore_n0, s_istore_n1, s_istore_n2, s_istore_n3, s_lstore, s_lstore_n0, s_lstore_n1, s_lstore_n2, s_lstore_n3, s_fstore, s_fstore_n0, s_fstore_n1, s_fstore_n2, s_fstore_n3, s_dstore, s_dstore_n0, s_dstore_n1, s_dstore_n2, s_dstore_n3, s_astore, s_astore_n0, s_astore_n1, s_astore_n2, s_astore_n3, s_astoreN_n, s_iinc, s_if_eq, s_if_lt, s_if_ge, s_if_gt, s_if_le, s_if_ne, s_ic_eq, s_ic_lt, s_ic_ge, s_ic_gt, s_ic_le, s_ic_ne, s_ifnn_r, s_ifnn_n, s_goto, s_nop, s_tab, s_getfield, s_putfield, s_anewarray, s_newarray, s_iaload, s_baload, s_caload, s_laload, s_daload, s_aaload, s_iastore, s_bastore, s_castore, s_lastore, s_dastore, s_aastore, s_arraylength, s_lreturn, s_freturn, s_dreturn, s_areturn, s_return, s_new, s_thr, ld_Z, ld_S, kl_Z, pd_0, pd_c, pd_n, ag_i, ag_r, ag_l, ag_n, st_Z, st_On, st_Oi, st_Or, st_Ol, st_S, s2_eq, mk_t, mk_f, mk_n, cl_v, cl_n, cl_if, vl_0, vl_1, vl_2, cv_i, cv_l, cv_d, cv_f, rf_s, qW_n, qW_i, qW_l, qW_r, qMem, x_get, x_putI, x_putL, x_ldL, x_ldI, x_ldA, x_stL, x_stI, x_isO, MK_1, MK_21, List.set_cons_zero, List.set_cons_succ, List.getElem?_cons_zero, List.getElem?_cons_succ, Option.map_some, List.tail_cons, i64_32, Nat.zero_add, Nat.reduceAdd, Nat.reduceLeDiff, Nat.le_refl, if_true, if_false, ite_true, ite_false, reduceIte, lnO, rfO, fn_0, f_0_0, f_0_1, f_0_2, f_0_3, f_0_4, f_0_5, f_0_6, f_0_7, f_0_8, f_0_9, f_0_10, f_0_11, f_0_12, f_0_13, f_0_14, fn_1, f_1_0, f_1_1, f_1_2, f_1_3, f_1_4, fn_2, f_2_0, f_2_1, f_2_2, f_2_3, f_2_4, f_2_5, fn_3, f_3_0, f_3_1, f_3_2, f_3_3, fn_4, f_4_0, f_4_1, f_4_2, f_4_3, f_4_4, f_4_5, fn_5, f_5_0, f_5_1, f_5_2, fn_6, f_6_0, f_6_1, f_6_2, fn_7, f_7_0, f_7_1, f_7_2, f_7_3, f_7_4, fn_8, f_8_0, f_8_1, f_8_2, f_8_3, f_8_4, f_8_5, f_8_6, f_8_7, fn_9, f_9_0, f_9_1, f_9_2, f_9_3, f_9_4, f_9_5, fn_10, f_10_0, f_10_1, f_10_2, f_10_3, f_10_4, f_10_5, f_10_6, f_10_7, f_10_8, f_10_9, f_10_10, f_10_11, f_10_12, f_10_13, f_10_14, f_10_15, f_10_16, f_10_17, f_10_18, f_10_19, f_10_20, f_10_21, f_10_22, f_10_23, Nat.reduceLT, cv_t, x_ld3, x_ld2, x_st3, x_st2, rm_g2, rm_g3, rm_g4, rm_g5, rm_g6, rm_g7, rm_s2, rm_s3, rm_s4, rm_s5, rm_s6, rm_s7, rm_t, c12, g1, g2, g3, nw7, i1, i2, mI_inc]
end CT3
