/-! ===== Forecasts ===== -/
def FL (y : Nat → Option qSh) (f : Nat) : Prop := y f = some (.inl (3, shF 3 f)) ∧ BL y (f + 1) ∧ y (f + 42) = some (.inr (.inl (1, 2001))) ∧ y (f + 43) = some (.inr (.inl (1, 2001)))
/-- the first values -/
def beh (d V : Nat → Int64) (i : Nat) : Nat → Int64 := fun j => if j ≤ i then V j else d j
def lea (V : Nat → Int64) : Nat → Int64
  | 0 => V 0
  | i + 1 => mn (lea V i) (V (i + 1))
def FMX (μ : qMu) (f b : Nat) (C : Row) (d B Q : Nat → Int64) (T : Row) : qMu := wr (wr (stc (stc (stc μ f d) (f + 42) B) (f + 43) Q) b C) (f + 1) T
section FOR
variable {G : qG} {y : Nat → Option qSh} {μ : qMu} {f b n s : Nat} {C T : Row} {d B Q : Nat → Int64} {cA cE cF cI' cB : Nat}
theorem beh_sv {d V : Nat → Int64} {i : Nat} : sv (beh d V i) (i + 1) (V (i + 1)) = beh d V (i + 1) := by
  funext j
  unfold sv beh
  by_cases h : j = i + 1
  · subst h
    rw [if_pos rfl, if_pos (Nat.le_refl _)]
  · rw [if_neg h]
    by_cases h2 : j ≤ i
    · rw [if_pos h2, if_pos (by omega)]
    · rw [if_neg h2, if_neg (by omega)]
theorem beh_0 {d V : Nat → Int64} : sv d 0 (V 0) = beh d V 0 := by
  funext j
  unfold sv beh
  by_cases h : j = 0
  · subst h
    rw [if_pos rfl, if_pos (Nat.le_refl _)]
  · rw [if_neg h, if_neg (by omega)]
theorem beh_le {d V : Nat → Int64} {i j : Nat} (h : j ≤ i) : beh d V i j = V j := by unfold beh; rw [if_pos h]
theorem fm_f (h : b + 41 ≤ f) : FMX μ f b C d B Q T f = d := by
  unfold FMX
  rw [wr_out (by omega), wr_out (by omega), stc_ne (by omega), stc_ne (by omega), stc_eq]
theorem fm_B (h : b + 41 ≤ f) : FMX μ f b C d B Q T (f + 42) = B := by
  unfold FMX
  rw [wr_out (by omega), wr_out (by omega), stc_ne (by omega), stc_eq]
theorem fm_Q (h : b + 41 ≤ f) : FMX μ f b C d B Q T (f + 43) = Q := by
  unfold FMX
  rw [wr_out (by omega), wr_out (by omega), stc_eq]
theorem fm_sf (h : b + 41 ≤ f) {d' : Nat → Int64} : stc (FMX μ f b C d B Q T) f d' = FMX μ f b C d' B Q T := by
  unfold FMX
  rw [wr_stc (by omega), wr_stc (by omega), stc_comm (a := f + 43) (by omega), stc_comm (a := f + 42) (by omega), stc_stc]
theorem fm_sB (h : b + 41 ≤ f) {d' : Nat → Int64} : stc (FMX μ f b C d B Q T) (f + 42) d' = FMX μ f b C d d' Q T := by
  unfold FMX
  rw [wr_stc (by omega), wr_stc (by omega), stc_comm (a := f + 43) (by omega), stc_stc]
theorem fm_sQ (h : b + 41 ≤ f) {d' : Nat → Int64} : stc (FMX μ f b C d B Q T) (f + 43) d' = FMX μ f b C d B d' T := by
  unfold FMX
  rw [wr_stc (by omega), wr_stc (by omega), stc_stc]
theorem fm_0 : FMX μ f b C (μ f) (μ (f + 42)) (μ (f + 43)) T = wr (wr μ b C) (f + 1) T := by
  unfold FMX
  rw [stc_self, stc_self, stc_self]
/-- the Book that is now, outermost -/
theorem fm_eq (h : b + 41 ≤ f) : FMX μ f b C d B Q T = wr (wr (stc (stc (stc μ f d) (f + 42) B) (f + 43) Q) (f + 1) T) b C := by
  unfold FMX
  rw [wr_comm (by omega)]
theorem fc_t0 (hB : BL y b) (hF : FL y f) (hd : b + 41 ≤ f) (hC : CtX C) : qR PG G (qEntry PG 46 [.ref (f + 1), .ref b] (MK y (wr μ b C) n s)) = some (.inl none, MK y (FMX μ f b C (μ f) (μ (f + 42)) (μ (f + 43)) (kCpy (rd μ (f + 1)) C)) n s) := by
  have q := t46s (G := G) (μ := μ) (n := n) (s := s) hB hF.2.1 (by omega) hC
  rw [fm_0, wr_comm (by omega)]
  exact q
theorem fl_min : ∀ k, k ≤ 2000 → mxI 0 (mnI (nI k) 2000) = nI k := by decide +kernel
/-- what is watched behind each day -/
noncomputable def fcV (T : Row) (cA cE cF cI cB : Nat) (w x : Int32) (i : Nat) : Int64 := kWat (kDays T cE cF cI cB i) cA w x
theorem t130 (hB : BL y b) (hF : FL y f) (hd : b + 41 ≤ f) (hC : CtX C) (hT : Ok (kCpy (rd μ (f + 1)) C) cA cE cF cI' cB) {k : Nat} (hk : k ≤ 2000) {w x : Int32} : qR PG G (qEntry PG 130 [.ref f, .ref b, .int w, .int x, .int (nI k)] (MK y (wr μ b C) n s)) =
    some (.inl none, MK y (FMX μ f b C (sv (μ f) 3 (nI k).toInt64) (beh (μ (f + 42)) (fcV (kCpy (rd μ (f + 1)) C) cA cE cF cI' cB w x) k) (beh (μ (f + 43)) (lea (fcV (kCpy (rd μ (f + 1)) C) cA cE cF cI' cB w x)) k) (kDays (kCpy (rd μ (f + 1)) C) cE cF cI' cB k)) n s) := by
  have q0 := fc_t0 (G := G) (μ := μ) (n := n) (s := s) hB hF hd hC
  obtain ⟨h0, h1, h2, h3⟩ := hF
  generalize kCpy (rd μ (f + 1)) C = T at q0 hT ⊢
  have tw : ∀ d B Q i, qR PG G (qEntry PG 131 [.ref (f + 1), .int w, .int x] (MK y (FMX μ f b C d B Q (kDays T cE cF cI' cB i)) n s)) = some (.inl (some (.long (fcV T cA cE cF cI' cB w x i))), MK y (FMX μ f b C d B Q (kDays T cE cF cI' cB i)) n s) := fun d B Q i => t131 h1 (kDays_ok hT i).1
  have tw0 : ∀ d B Q, qR PG G (qEntry PG 131 [.ref (f + 1), .int w, .int x] (MK y (FMX μ f b C d B Q T) n s)) = some (.inl (some (.long (fcV T cA cE cF cI' cB w x 0))), MK y (FMX μ f b C d B Q T) n s) := fun d B Q => tw d B Q 0
  have td : ∀ d B Q i, qR PG G (qEntry PG 94 [.ref (f + 1)] (MK y (FMX μ f b C d B Q (kDays T cE cF cI' cB i)) n s)) = some (.inl none, MK y (FMX μ f b C d B Q (kDay (kDays T cE cF cI' cB i) cE cF cI' cB)) n s) := fun d B Q i => t94 h1 (kDays_ok hT i)
  have tp : ∀ d B Q i, qR PG G (qEntry PG 104 [.ref (f + 1)] (MK y (FMX μ f b C d B Q (kDay (kDays T cE cF cI' cB i) cE cF cI' cB)) n s)) = some (.inl none, MK y (FMX μ f b C d B Q (kDays T cE cF cI' cB (i + 1))) n s) := fun d B Q i => t104 h1 (kDay_ok (kDays_ok hT i))
  have b0 := beh_0 (d := μ (f + 42)) (V := fcV T cA cE cF cI' cB w x)
  have b1 := beh_0 (d := μ (f + 43)) (V := lea (fcV T cA cE cF cI' cB w x))
  generalize hV : fcV T cA cE cF cI' cB w x = V at tw tw0 b0 b1 ⊢
  have g0 : ixok 0 2001 := by constructor <;> decide
  have g1 : (0 : Int32).toNatClampNeg = 0 := rfl
  have hm := fl_min k hk
  have v0 : ∀ (d : Nat → Int64) v, sv d 0 v 0 = v := fun d v => by rw [sv_get, if_pos rfl]
  have hl : qR PG G (qEntry PG 130 [.ref f, .ref b, .int w, .int x, .int (nI k)] (MK y (wr μ b C) n s)) = qR PG G (130, K130_1, [some (.ref f), none, some (.int w), some (.int x), none, some (.int (nI 1))], [], MK y (FMX μ f b C (sv (μ f) 3 (nI k).toInt64) (beh (μ (f + 42)) V 0) (beh (μ (f + 43)) (lea V) 0) (kDays T cE cF cI' cB 0)) n s) := by
    rw [← b0, ← b1, lea, kDays]
    have z1 : nI 1 = 1 := rfl
    rw [z1]
    simp -implicitDefEqProofs only [e130, K130_0, j130_1, s_iadd, s_isub, s_imul, s_ineg, s_iand, s_ior, s_ixor, s_ishl, s_ishr, s_iushr, s_i2l, s_l2i, s_i2b, s_i2c, s_ladd, s_lsub, s_lmul, s_lneg, s_land, s_lor, s_lshl, s_lshr, s_lushr, s_lcmp, s_l2d, s_l2f, s_i2d, s_i2f, s_idiv, s_ldiv, s_irem, s_lrem, s_dcmp, s_fcmp, s_ddiv, s_fdiv, s_f2d, s_dup_i, s_dup_r, s_dup2_l, s_dup2_ir, s_pop, s_iconst, s_bipush, s_sipush, s_lconst, s_fconst, s_dconst, s_ldc, s_ldc_w, s_ldc2_w, s_iload, s_iload_n0, s_iload_n1, s_iload_n2, s_iload_n3, s_lload, s_lload_n0, s_lload_n1, s_lload_n2, s_lload_n3, s_fload, s_fload_n0, s_fload_n1, s_fload_n2, s_fload_n3, s_dload, s_dload_n0, s_dload_n1, s_dload_n2, s_dload_n3, s_aload, s_aload_n0, s_aload_n1, s_aload_n2, s_aload_n3, s_istore, s_istore_n0, s_istore_n1, s_istore_n2, s_istore_n3, s_lstore, s_lstore_n0, s_lstore_n1, s_lstore_n2, s_lstore_n3, s_fstore, s_fstore_n0, s_fstore_n1, s_fstore_n2, s_fstore_n3, s_dstore, s_dstore_n0, s_dstore_n1, s_dstore_n2, s_dstore_n3, s_astore, s_astore_n0, s_astore_n1, s_astore_n2, s_astore_n3, s_astoreN_n, s_iinc, s_if_eq, s_if_lt, s_if_ge, s_if_gt, s_if_le, s_if_ne, s_ic_eq, s_ic_lt, s_ic_ge, s_ic_gt, s_ic_le, s_ic_ne, s_ifnn_r, s_ifnn_n, s_goto, s_nop, s_tab, s_getfield, s_putfield, s_anewarray, s_newarray, s_iaload, s_baload, s_caload, s_laload, s_daload, s_aaload, s_iastore, s_bastore, s_castore, s_lastore, s_dastore, s_aastore, s_arraylength, s_lreturn, s_freturn, s_dreturn, s_areturn, s_return, s_new, s_thr, ld_Z, ld_S, kl_Z, pd_0, pd_c, pd_n, ag_i, ag_r, ag_l, ag_n, st_Z, st_On, st_Oi, st_Or, st_Ol, st_S, s2_eq, mk_t, mk_f, mk_n, cl_v, cl_n, cl_if, vl_0, vl_1, vl_2, cv_i, cv_l, cv_d, cv_f, rf_s, qW_n, qW_i, qW_l, qW_r, qMem, x_get, x_putI, x_putL, x_ldL, x_ldI, x_ldA, x_stL, x_stI, x_isO, MK_1, MK_21, List.set_cons_zero, List.set_cons_succ, List.getElem?_cons_zero, List.getElem?_cons_succ, Option.map_some, List.tail_cons, i64_32, Nat.zero_add, Nat.reduceAdd, Nat.reduceLeDiff, Nat.le_refl, if_true, if_false, ite_true, ite_false, reduceIte, lnO, rfO, fn_0, f_0_0, f_0_1, f_0_2, f_0_3, f_0_4, f_0_5, f_0_6, f_0_7, f_0_8, f_0_9, f_0_10, f_0_11, f_0_12, f_0_13, f_0_14, fn_1, f_1_0, f_1_1, f_1_2, f_1_3, f_1_4, fn_2, f_2_0, f_2_1, f_2_2, f_2_3, f_2_4, f_2_5, fn_3, f_3_0, f_3_1, f_3_2, f_3_3, fn_4, f_4_0, f_4_1, f_4_2, f_4_3, f_4_4, f_4_5, fn_5, f_5_0, f_5_1, f_5_2, fn_6, f_6_0, f_6_1, f_6_2, fn_7, f_7_0, f_7_1, f_7_2, f_7_3, f_7_4, fn_8, f_8_0, f_8_1, f_8_2, f_8_3, f_8_4, f_8_5, f_8_6, f_8_7, fn_9, f_9_0, f_9_1, f_9_2, f_9_3, f_9_4, f_9_5, fn_10, f_10_0, f_10_1, f_10_2, f_10_3, f_10_4, f_10_5, f_10_6, f_10_7, f_10_8, f_10_9, f_10_10, f_10_11, f_10_12, f_10_13, f_10_14, f_10_15, f_10_16, f_10_17, f_10_18, f_10_19, f_10_20, f_10_21, f_10_22, f_10_23, Nat.reduceLT, cv_t, x_ld3, x_ld2, x_st3, x_st2, rm_g2, rm_g3, rm_g4, rm_g5, rm_g6, rm_g7, rm_s2, rm_s3, rm_s4, rm_s5, rm_s6, rm_s7, rm_t, c46, c1, c3, c131, q0, t1, t3, tw0, hm, h0, hB.1, h1.1, h2, h3, fm_f hd, fm_B hd, fm_Q hd, fm_sf hd, fm_sB hd, fm_sQ hd, g0, g1, v0]
  rw [hl]
  have hs : ∀ i, i < k → qR PG G ((fun i => (130, K130_1, [some (.ref f), none, some (.int w), some (.int x), none, some (.int (nI (i + 1)))], [], MK y (FMX μ f b C (sv (μ f) 3 (nI k).toInt64) (beh (μ (f + 42)) V i) (beh (μ (f + 43)) (lea V) i) (kDays T cE cF cI' cB i)) n s)) i) = qR PG G ((fun i => (130, K130_1, [some (.ref f), none, some (.int w), some (.int x), none, some (.int (nI (i + 1)))], [], MK y (FMX μ f b C (sv (μ f) 3 (nI k).toInt64) (beh (μ (f + 42)) V i) (beh (μ (f + 43)) (lea V) i) (kDays T cE cF cI' cB i)) n s)) (i + 1)) := by
    intro i hi
    have i1 : ¬ nI k < nI (i + 1) := by rw [mI_lt (by omega) (by omega)]; omega
    have i2 : ixok (nI (i + 1)) 2001 := ixok_n (by omega) (by decide)
    have i3 : (nI (i + 1)).toNatClampNeg = i + 1 := nI_clamp (by omega)
    have i4 : ixok (nI i) 2001 := ixok_n (by omega) (by decide)
    have i5 : (nI i).toNatClampNeg = i := nI_clamp (by omega)
    have i6 : nI (i + 1) - 1 = nI i := by
      rw [nI_succ]
      exact Int32.add_sub_cancel _ _
    have v3 : ∀ v, (sv (μ f) 3 v) 3 = v := fun v => by rw [sv_get, if_pos rfl]
    have e1 := beh_sv (d := μ (f + 42)) (V := V) (i := i)
    have e2 := beh_sv (d := μ (f + 43)) (V := lea V) (i := i)
    have e3 := beh_le (d := μ (f + 43)) (V := lea V) (Nat.le_refl i)
    have e4 := beh_le (d := μ (f + 42)) (V := V) (Nat.le_refl (i + 1))
    have e5 : lea V (i + 1) = mn (lea V i) (V (i + 1)) := rfl
    conv => lhs; unfold K130_1
    dsimp only
    rw [← e1, ← e2, e5]
    rw [← e1] at e4
    simp -implicitDefEqProofs only [j130_1, s_iadd, s_isub, s_imul, s_ineg, s_iand, s_ior, s_ixor, s_ishl, s_ishr, s_iushr, s_i2l, s_l2i, s_i2b, s_i2c, s_ladd, s_lsub, s_lmul, s_lneg, s_land, s_lor, s_lshl, s_lshr, s_lushr, s_lcmp, s_l2d, s_l2f, s_i2d, s_i2f, s_idiv, s_ldiv, s_irem, s_lrem, s_dcmp, s_fcmp, s_ddiv, s_fdiv, s_f2d, s_dup_i, s_dup_r, s_dup2_l, s_dup2_ir, s_pop, s_iconst, s_bipush, s_sipush, s_lconst, s_fconst, s_dconst, s_ldc, s_ldc_w, s_ldc2_w, s_iload, s_iload_n0, s_iload_n1, s_iload_n2, s_iload_n3, s_lload, s_lload_n0, s_lload_n1, s_lload_n2, s_lload_n3, s_fload, s_fload_n0, s_fload_n1, s_fload_n2, s_fload_n3, s_dload, s_dload_n0, s_dload_n1, s_dload_n2, s_dload_n3, s_aload, s_aload_n0, s_aload_n1, s_aload_n2, s_aload_n3, s_istore, s_istore_n0, s_istore_n1, s_istore_n2, s_istore_n3, s_lstore, s_lstore_n0, s_lstore_n1, s_lstore_n2, s_lstore_n3, s_fstore, s_fstore_n0, s_fstore_n1, s_fstore_n2, s_fstore_n3, s_dstore, s_dstore_n0, s_dstore_n1, s_dstore_n2, s_dstore_n3, s_astore, s_astore_n0, s_astore_n1, s_astore_n2, s_astore_n3, s_astoreN_n, s_iinc, s_if_eq, s_if_lt, s_if_ge, s_if_gt, s_if_le, s_if_ne, s_ic_eq, s_ic_lt, s_ic_ge, s_ic_gt, s_ic_le, s_ic_ne, s_ifnn_r, s_ifnn_n, s_goto, s_nop, s_tab, s_getfield, s_putfield, s_anewarray, s_newarray, s_iaload, s_baload, s_caload, s_laload, s_daload, s_aaload, s_iastore, s_bastore, s_castore, s_lastore, s_dastore, s_aastore, s_arraylength, s_lreturn, s_freturn, s_dreturn, s_areturn, s_return, s_new, s_thr, ld_Z, ld_S, kl_Z, pd_0, pd_c, pd_n, ag_i, ag_r, ag_l, ag_n, st_Z, st_On, st_Oi, st_Or, st_Ol, st_S, s2_eq, mk_t, mk_f, mk_n, cl_v, cl_n, cl_if, vl_0, vl_1, vl_2, cv_i, cv_l, cv_d, cv_f, rf_s, qW_n, qW_i, qW_l, qW_r, qMem, x_get, x_putI, x_putL, x_ldL, x_ldI, x_ldA, x_stL, x_stI, x_isO, MK_1, MK_21, List.set_cons_zero, List.set_cons_succ, List.getElem?_cons_zero, List.getElem?_cons_succ, Option.map_some, List.tail_cons, i64_32, Nat.zero_add, Nat.reduceAdd, Nat.reduceLeDiff, Nat.le_refl, if_true, if_false, ite_true, ite_false, reduceIte, lnO, rfO, fn_0, f_0_0, f_0_1, f_0_2, f_0_3, f_0_4, f_0_5, f_0_6, f_0_7, f_0_8, f_0_9, f_0_10, f_0_11, f_0_12, f_0_13, f_0_14, fn_1, f_1_0, f_1_1, f_1_2, f_1_3, f_1_4, fn_2, f_2_0, f_2_1, f_2_2, f_2_3, f_2_4, f_2_5, fn_3, f_3_0, f_3_1, f_3_2, f_3_3, fn_4, f_4_0, f_4_1, f_4_2, f_4_3, f_4_4, f_4_5, fn_5, f_5_0, f_5_1, f_5_2, fn_6, f_6_0, f_6_1, f_6_2, fn_7, f_7_0, f_7_1, f_7_2, f_7_3, f_7_4, fn_8, f_8_0, f_8_1, f_8_2, f_8_3, f_8_4, f_8_5, f_8_6, f_8_7, fn_9, f_9_0, f_9_1, f_9_2, f_9_3, f_9_4, f_9_5, fn_10, f_10_0, f_10_1, f_10_2, f_10_3, f_10_4, f_10_5, f_10_6, f_10_7, f_10_8, f_10_9, f_10_10, f_10_11, f_10_12, f_10_13, f_10_14, f_10_15, f_10_16, f_10_17, f_10_18, f_10_19, f_10_20, f_10_21, f_10_22, f_10_23, Nat.reduceLT, cv_t, x_ld3, x_ld2, x_st3, x_st2, rm_g2, rm_g3, rm_g4, rm_g5, rm_g6, rm_g7, rm_s2, rm_s3, rm_s4, rm_s5, rm_s6, rm_s7, rm_t, c94, c104, c131, c0, t0, td, tp, tw, h0, h1.1, h2, h3, fm_f hd, fm_B hd, fm_Q hd, fm_sf hd, fm_sB hd, fm_sQ hd, v3, i1, i2, i3, i4, i5, i6, e3, e4, mI_inc]
  refine (lp hs 0 (Nat.zero_le _)).trans ?_
  have i1 : nI k < nI (k + 1) := by rw [mI_lt (by omega) (by omega)]; omega
  have v3 : ∀ v, (sv (μ f) 3 v) 3 = v := fun v => by rw [sv_get, if_pos rfl]
  simp -implicitDefEqProofs only [K130_1, K130_2, j130_2, s_iadd, s_isub, s_imul, s_ineg, s_iand, s_ior, s_ixor, s_ishl, s_ishr, s_iushr, s_i2l, s_l2i, s_i2b, s_i2c, s_ladd, s_lsub, s_lmul, s_lneg, s_land, s_lor, s_lshl, s_lshr, s_lushr, s_lcmp, s_l2d, s_l2f, s_i2d, s_i2f, s_idiv, s_ldiv, s_irem, s_lrem, s_dcmp, s_fcmp, s_ddiv, s_fdiv, s_f2d, s_dup_i, s_dup_r, s_dup2_l, s_dup2_ir, s_pop, s_iconst, s_bipush, s_sipush, s_lconst, s_fconst, s_dconst, s_ldc, s_ldc_w, s_ldc2_w, s_iload, s_iload_n0, s_iload_n1, s_iload_n2, s_iload_n3, s_lload, s_lload_n0, s_lload_n1, s_lload_n2, s_lload_n3, s_fload, s_fload_n0, s_fload_n1, s_fload_n2, s_fload_n3, s_dload, s_dload_n0, s_dload_n1, s_dload_n2, s_dload_n3, s_aload, s_aload_n0, s_aload_n1, s_aload_n2, s_aload_n3, s_istore, s_istore_n0, s_istore_n1, s_istore_n2, s_istore_n3, s_lstore, s_lstore_n0, s_lstore_n1, s_lstore_n2, s_lstore_n3, s_fstore, s_fstore_n0, s_fstore_n1, s_fstore_n2, s_fstore_n3, s_dstore, s_dstore_n0, s_dstore_n1, s_dstore_n2, s_dstore_n3, s_astore, s_astore_n0, s_astore_n1, s_astore_n2, s_astore_n3, s_astoreN_n, s_iinc, s_if_eq, s_if_lt, s_if_ge, s_if_gt, s_if_le, s_if_ne, s_ic_eq, s_ic_lt, s_ic_ge, s_ic_gt, s_ic_le, s_ic_ne, s_ifnn_r, s_ifnn_n, s_goto, s_nop, s_tab, s_getfield, s_putfield, s_anewarray, s_newarray, s_iaload, s_baload, s_caload, s_laload, s_daload, s_aaload, s_iastore, s_bastore, s_castore, s_lastore, s_dastore, s_aastore, s_arraylength, s_lreturn, s_freturn, s_dreturn, s_areturn, s_return, s_new, s_thr, ld_Z, ld_S, kl_Z, pd_0, pd_c, pd_n, ag_i, ag_r, ag_l, ag_n, st_Z, st_On, st_Oi, st_Or, st_Ol, st_S, s2_eq, mk_t, mk_f, mk_n, cl_v, cl_n, cl_if, vl_0, vl_1, vl_2, cv_i, cv_l, cv_d, cv_f, rf_s, qW_n, qW_i, qW_l, qW_r, qMem, x_get, x_putI, x_putL, x_ldL, x_ldI, x_ldA, x_stL, x_stI, x_isO, MK_1, MK_21, List.set_cons_zero, List.set_cons_succ, List.getElem?_cons_zero, List.getElem?_cons_succ, Option.map_some, List.tail_cons, i64_32, Nat.zero_add, Nat.reduceAdd, Nat.reduceLeDiff, Nat.le_refl, if_true, if_false, ite_true, ite_false, reduceIte, lnO, rfO, fn_0, f_0_0, f_0_1, f_0_2, f_0_3, f_0_4, f_0_5, f_0_6, f_0_7, f_0_8, f_0_9, f_0_10, f_0_11, f_0_12, f_0_13, f_0_14, fn_1, f_1_0, f_1_1, f_1_2, f_1_3, f_1_4, fn_2, f_2_0, f_2_1, f_2_2, f_2_3, f_2_4, f_2_5, fn_3, f_3_0, f_3_1, f_3_2, f_3_3, fn_4, f_4_0, f_4_1, f_4_2, f_4_3, f_4_4, f_4_5, fn_5, f_5_0, f_5_1, f_5_2, fn_6, f_6_0, f_6_1, f_6_2, fn_7, f_7_0, f_7_1, f_7_2, f_7_3, f_7_4, fn_8, f_8_0, f_8_1, f_8_2, f_8_3, f_8_4, f_8_5, f_8_6, f_8_7, fn_9, f_9_0, f_9_1, f_9_2, f_9_3, f_9_4, f_9_5, fn_10, f_10_0, f_10_1, f_10_2, f_10_3, f_10_4, f_10_5, f_10_6, f_10_7, f_10_8, f_10_9, f_10_10, f_10_11, f_10_12, f_10_13, f_10_14, f_10_15, f_10_16, f_10_17, f_10_18, f_10_19, f_10_20, f_10_21, f_10_22, f_10_23, Nat.reduceLT, cv_t, x_ld3, x_ld2, x_st3, x_st2, rm_g2, rm_g3, rm_g4, rm_g5, rm_g6, rm_g7, rm_s2, rm_s3, rm_s4, rm_s5, rm_s6, rm_s7, rm_t, h0, fm_f hd, v3, i1]
end FOR
