/-! ===== A Book's methods, 2 ===== -/
/-- the counts of a Book -/
def Ct (C : Row) (a e f i b : Nat) : Prop := (C 0).toInt32 = nI a ∧ a ≤ 4 ∧ (C 1).toInt32 = nI e ∧ e ≤ 10 ∧ (C 2).toInt32 = nI f ∧ f ≤ 6 ∧ (C 3).toInt32 = nI i ∧ i ≤ 4 ∧ (C 4).toInt32 = nI b ∧ b ≤ 12
def K5 (C D : Row) : Prop := ∀ i, i < 6 → D i = C i
theorem K5.rf {C : Row} : K5 C C := fun _ _ => rfl
theorem K5.tr {C D E : Row} (h1 : K5 C D) (h2 : K5 D E) : K5 C E := fun i hi => (h2 i hi).trans (h1 i hi)
theorem K5.sv {C D : Row} {k : Nat} {v : Int64} (h : K5 C D) (hk : 6 ≤ k) : K5 C (sv D k v) := fun i hi => by rw [sv_get, if_neg (by omega)]; exact h i hi
theorem Ct.k5 {C D : Row} {a e f i b : Nat} (h : Ct C a e f i b) (hk : K5 C D) : Ct D a e f i b := by
  obtain ⟨h1, h2, h3, h4, h5, h6, h7, h8, h9, h10⟩ := h
  exact ⟨by rw [hk 0 (by decide)]; exact h1, h2, by rw [hk 1 (by decide)]; exact h3, h4, by rw [hk 2 (by decide)]; exact h5, h6, by rw [hk 3 (by decide)]; exact h7, h8, by rw [hk 4 (by decide)]; exact h9, h10⟩
theorem i32_neg {x : Int32} (h : x < 0) : x.toNatClampNeg = 0 := by
  have : x.toInt < 0 := by simpa using Int32.lt_iff_toInt_lt.mp h
  show x.toInt.toNat = 0
  omega
theorem i32_of {x : Int32} (h : 0 ≤ x) : x = nI x.toNatClampNeg := (qOfNat (Int32.not_lt.mpr h)).symm
theorem i32_lt {x : Int32} {k : Nat} (hk : k < 2 ^ 31) (h : x < nI k) (h0 : 0 ≤ x) : x.toNatClampNeg < k := by
  have h1 : x.toInt < (nI k).toInt := Int32.lt_iff_toInt_lt.mp h
  rw [nI_toInt hk] at h1
  have h2 : 0 ≤ x.toInt := by simpa using Int32.le_iff_toInt_le.mp h0
  show x.toInt.toNat < k
  omega
theorem ixok_of {x : Int32} {k l : Nat} (hk : k < 2 ^ 31) (hl : k ≤ l) (h : x < nI k) (h0 : 0 ≤ x) : ixok x l := ⟨h0, Nat.lt_of_lt_of_le (i32_lt hk h h0) hl⟩
section BK2
variable {G : qG} {y : Nat → Option qSh} {μ : qMu} {b n s : Nat} {C : Row} {h : qHp} {cA cE cF cI cB : Nat}
theorem t96c (hB : BL y b) (hC : Ct C cA cE cF cI cB) {x : Int32} {v : Int64} : qR PG G (qEntry PG 96 [.ref b, .int x, .long v] (MK y (wr μ b C) n s)) = some (.inl none, MK y (wr μ b (kChg C x v)) n s) := by
  refine t96 hB (fun hx => ?_)
  rw [hC.1] at hx
  by_cases h0 : 0 ≤ x
  · exact Nat.lt_of_lt_of_le (i32_lt (by have := hC.2.1; omega) hx h0) hC.2.1
  · rw [i32_neg (Int32.not_le.mp h0)]; decide
theorem kChg_k {x : Int32} {v : Int64} : K5 C (kChg C x v) := by
  unfold kChg
  split
  · exact K5.rf.sv (by omega)
  · exact K5.rf
/-- the log -/
def lat (C : Row) : Nat := (C 392).toInt32.toNatClampNeg
def Lg (C : Row) : Prop := ∃ l, l < 40 ∧ (C 392).toInt32 = nI l
def kEnter (C : Row) (k d z : Int32) (a u : Int64) : Row :=
  sv (sv (sv (sv (sv (sv (sv C 392 (nI ((lat C + 1) % 40)).toInt64) 391 (mnI ((C 391).toInt32 + 1) 40).toInt64) (191 + 5 * ((lat C + 1) % 40)) k.toInt64) (191 + (5 * ((lat C + 1) % 40) + 1)) d.toInt64) (191 + (5 * ((lat C + 1) % 40) + 2)) z.toInt64) (191 + (5 * ((lat C + 1) % 40) + 3)) a) (191 + (5 * ((lat C + 1) % 40) + 4)) u
theorem kEnter_k {k d z : Int32} {a u : Int64} : K5 C (kEnter C k d z a u) := by
  unfold kEnter
  exact ((((((K5.rf.sv (by omega)).sv (by omega)).sv (by omega)).sv (by omega)).sv (by omega)).sv (by omega)).sv (by omega)
theorem kEnter_l {k d z : Int32} {a u : Int64} : Lg (kEnter C k d z a u) := by
  refine ⟨(lat C + 1) % 40, Nat.mod_lt _ (by decide), ?_⟩
  have hlt : (lat C + 1) % 40 < 40 := Nat.mod_lt _ (by decide)
  unfold kEnter
  generalize (lat C + 1) % 40 = q at hlt
  rw [sv_get, if_neg (by omega), sv_get, if_neg (by omega), sv_get, if_neg (by omega), sv_get, if_neg (by omega), sv_get, if_neg (by omega), sv_get, if_neg (by omega), sv_get, if_pos rfl, i64_32]
theorem a71 : b + 7 + 1 = b + 8 := rfl
theorem lg_step : ∀ l, l < 40 → (nI l + 1) - (nI l + 1) / 40 * 40 = nI ((l + 1) % 40) := by decide +kernel
theorem nia1 {a : Nat} : nI a + 1 = nI (a + 1) := mI_add (i := a) (k := 1)
theorem nia2 {a : Nat} : nI a + 2 = nI (a + 2) := mI_add (i := a) (k := 2)
theorem nia3 {a : Nat} : nI a + 3 = nI (a + 3) := mI_add (i := a) (k := 3)
theorem nia4 {a : Nat} : nI a + 4 = nI (a + 4) := mI_add (i := a) (k := 4)
theorem nia5 {a : Nat} : nI a + 5 = nI (a + 5) := mI_add (i := a) (k := 5)
theorem lg_ix : ∀ q, q < 40 → nI q * 5 = nI (5 * q) := by decide +kernel
theorem t98 (hB : BL y b) (hL : Lg C) {k d z : Int32} {a u : Int64} : qR PG G (qEntry PG 98 [.ref (b + 7), .int k, .int d, .int z, .long a, .long u] (MK y (wr μ b C) n s)) = some (.inl none, MK y (wr μ b (kEnter C k d z a u)) n s) := by
  obtain ⟨h0, h1, h2, h3, h4, h5, h6, h7, h8, h9, h10, h11, h12⟩ := hB
  obtain ⟨l, hl, hl2⟩ := hL
  unfold kEnter lat
  rw [hl2, nI_clamp (by omega)]
  have hs := lg_step l hl
  rw [nia1] at hs
  have hq : (l + 1) % 40 < 40 := Nat.mod_lt _ (by decide)
  generalize (l + 1) % 40 = q at hs hq
  have g0 := lg_ix q hq
  have i0 : ixok (nI (5 * q)) 200 := ixok_n (by omega) (by decide)
  have i1 : ixok (nI (5 * q + 1)) 200 := ixok_n (by omega) (by decide)
  have i2 : ixok (nI (5 * q + 2)) 200 := ixok_n (by omega) (by decide)
  have i3 : ixok (nI (5 * q + 3)) 200 := ixok_n (by omega) (by decide)
  have i4 : ixok (nI (5 * q + 4)) 200 := ixok_n (by omega) (by decide)
  have z0 : (nI (5 * q)).toNatClampNeg = 5 * q := nI_clamp (by omega)
  have z1 : (nI (5 * q + 1)).toNatClampNeg = 5 * q + 1 := nI_clamp (by omega)
  have z2 : (nI (5 * q + 2)).toNatClampNeg = 5 * q + 2 := nI_clamp (by omega)
  have z3 : (nI (5 * q + 3)).toNatClampNeg = 5 * q + 3 := nI_clamp (by omega)
  have z4 : (nI (5 * q + 4)).toNatClampNeg = 5 * q + 4 := nI_clamp (by omega)
  have k0 : 5 * q < 200 := by omega
  have k1 : 5 * q + 1 < 200 := by omega
  have k2 : 5 * q + 2 < 200 := by omega
  have k3 : 5 * q + 3 < 200 := by omega
  have k4 : 5 * q + 4 < 200 := by omega
  have v1 : ∀ v : Int64, (sv C 392 v) 391 = C 391 := fun v => by rw [sv_get, if_neg (by decide)]
  have v2 : ∀ v w : Int64, (sv (sv C 392 v) 391 w) 392 = v := fun v w => by rw [sv_get, if_neg (by decide), sv_get, if_pos rfl]
  have n40 : (40 : Int32) ≠ 0 := by decide
  simp -implicitDefEqProofs only [e98, K98_0, j98_0, x98, s_iadd, s_isub, s_imul, s_ineg, s_iand, s_ior, s_ixor, s_ishl, s_ishr, s_iushr, s_i2l, s_l2i, s_i2b, s_i2c, s_ladd, s_lsub, s_lmul, s_lneg, s_land, s_lor, s_lshl, s_lshr, s_lushr, s_lcmp, s_l2d, s_l2f, s_i2d, s_i2f, s_idiv, s_ldiv, s_irem, s_lrem, s_dcmp, s_fcmp, s_ddiv, s_fdiv, s_f2d, s_dup_i, s_dup_r, s_dup2_l, s_dup2_ir, s_pop, s_iconst, s_bipush, s_sipush, s_lconst, s_fconst, s_dconst, s_ldc, s_ldc_w, s_ldc2_w, s_iload, s_iload_n0, s_iload_n1, s_iload_n2, s_iload_n3, s_lload, s_lload_n0, s_lload_n1, s_lload_n2, s_lload_n3, s_fload, s_fload_n0, s_fload_n1, s_fload_n2, s_fload_n3, s_dload, s_dload_n0, s_dload_n1, s_dload_n2, s_dload_n3, s_aload, s_aload_n0, s_aload_n1, s_aload_n2, s_aload_n3, s_istore, s_istore_n0, s_istore_n1, s_istore_n2, s_istore_n3, s_lstore, s_lstore_n0, s_lstore_n1, s_lstore_n2, s_lstore_n3, s_fstore, s_fstore_n0, s_fstore_n1, s_fstore_n2, s_fstore_n3, s_dstore, s_dstore_n0, s_dstore_n1, s_dstore_n2, s_dstore_n3, s_astore, s_astore_n0, s_astore_n1, s_astore_n2, s_astore_n3, s_astoreN_n, s_iinc, s_if_eq, s_if_lt, s_if_ge, s_if_gt, s_if_le, s_if_ne, s_ic_eq, s_ic_lt, s_ic_ge, s_ic_gt, s_ic_le, s_ic_ne, s_ifnn_r, s_ifnn_n, s_goto, s_nop, s_tab, s_getfield, s_putfield, s_anewarray, s_newarray, s_iaload, s_baload, s_caload, s_laload, s_daload, s_aaload, s_iastore, s_bastore, s_castore, s_lastore, s_dastore, s_aastore, s_arraylength, s_lreturn, s_freturn, s_dreturn, s_areturn, s_return, s_new, s_thr, ld_Z, ld_S, kl_Z, pd_0, pd_c, pd_n, ag_i, ag_r, ag_l, ag_n, st_Z, st_On, st_Oi, st_Or, st_Ol, st_S, s2_eq, mk_t, mk_f, mk_n, cl_v, cl_n, cl_if, vl_0, vl_1, vl_2, cv_i, cv_l, cv_d, cv_f, rf_s, qW_n, qW_i, qW_l, qW_r, qMem, x_get, x_putI, x_putL, x_ldL, x_ldI, x_ldA, x_stL, x_stI, x_isO, MK_1, MK_21, List.set_cons_zero, List.set_cons_succ, List.getElem?_cons_zero, List.getElem?_cons_succ, Option.map_some, List.tail_cons, i64_32, Nat.zero_add, Nat.reduceAdd, Nat.reduceLeDiff, Nat.le_refl, if_true, if_false, ite_true, ite_false, reduceIte, lnO, rfO, fn_0, f_0_0, f_0_1, f_0_2, f_0_3, f_0_4, f_0_5, f_0_6, f_0_7, f_0_8, f_0_9, f_0_10, f_0_11, f_0_12, f_0_13, f_0_14, fn_1, f_1_0, f_1_1, f_1_2, f_1_3, f_1_4, fn_2, f_2_0, f_2_1, f_2_2, f_2_3, f_2_4, f_2_5, fn_3, f_3_0, f_3_1, f_3_2, f_3_3, fn_4, f_4_0, f_4_1, f_4_2, f_4_3, f_4_4, f_4_5, fn_5, f_5_0, f_5_1, f_5_2, fn_6, f_6_0, f_6_1, f_6_2, fn_7, f_7_0, f_7_1, f_7_2, f_7_3, f_7_4, fn_8, f_8_0, f_8_1, f_8_2, f_8_3, f_8_4, f_8_5, f_8_6, f_8_7, fn_9, f_9_0, f_9_1, f_9_2, f_9_3, f_9_4, f_9_5, fn_10, f_10_0, f_10_1, f_10_2, f_10_3, f_10_4, f_10_5, f_10_6, f_10_7, f_10_8, f_10_9, f_10_10, f_10_11, f_10_12, f_10_13, f_10_14, f_10_15, f_10_16, f_10_17, f_10_18, f_10_19, f_10_20, f_10_21, f_10_22, f_10_23, Nat.reduceLT, c1, t1, h7, h8, a71, wg_ll, ws_ll, wg_lc, ws_lc, hl2, s_irem n40, hs, v1, v2, g0, nia1, nia2, nia3, nia4, i0, i1, i2, i3, i4, z0, z1, z2, z3, z4, ws_log k0, ws_log k1, ws_log k2, ws_log k3, ws_log k4]
theorem t81 (hB : BL y b) {x : Int32} : qR PG G (qEntry PG 81 [.ref b, .int x] (MK y (wr μ b C) n s)) = some (.inl (some (.int (if 0 ≤ x ∧ x < (C 1).toInt32 then 1 else 0))), MK y (wr μ b C) n s) := by
  obtain ⟨h0, -⟩ := hB
  by_cases hx : 0 ≤ x ∧ x < (C 1).toInt32
  · have i1 : ¬ x < 0 := Int32.not_lt.mpr hx.1
    have i2 : ¬ (C 1).toInt32 ≤ x := Int32.not_le.mpr hx.2
    simp -implicitDefEqProofs only [e81, K81_0, j81_0, K81_1, j81_1, K81_2, j81_2, r81_0, r81_1, x81, s_iadd, s_isub, s_imul, s_ineg, s_iand, s_ior, s_ixor, s_ishl, s_ishr, s_iushr, s_i2l, s_l2i, s_i2b, s_i2c, s_ladd, s_lsub, s_lmul, s_lneg, s_land, s_lor, s_lshl, s_lshr, s_lushr, s_lcmp, s_l2d, s_l2f, s_i2d, s_i2f, s_idiv, s_ldiv, s_irem, s_lrem, s_dcmp, s_fcmp, s_ddiv, s_fdiv, s_f2d, s_dup_i, s_dup_r, s_dup2_l, s_dup2_ir, s_pop, s_iconst, s_bipush, s_sipush, s_lconst, s_fconst, s_dconst, s_ldc, s_ldc_w, s_ldc2_w, s_iload, s_iload_n0, s_iload_n1, s_iload_n2, s_iload_n3, s_lload, s_lload_n0, s_lload_n1, s_lload_n2, s_lload_n3, s_fload, s_fload_n0, s_fload_n1, s_fload_n2, s_fload_n3, s_dload, s_dload_n0, s_dload_n1, s_dload_n2, s_dload_n3, s_aload, s_aload_n0, s_aload_n1, s_aload_n2, s_aload_n3, s_istore, s_istore_n0, s_istore_n1, s_istore_n2, s_istore_n3, s_lstore, s_lstore_n0, s_lstore_n1, s_lstore_n2, s_lstore_n3, s_fstore, s_fstore_n0, s_fstore_n1, s_fstore_n2, s_fstore_n3, s_dstore, s_dstore_n0, s_dstore_n1, s_dstore_n2, s_dstore_n3, s_astore, s_astore_n0, s_astore_n1, s_astore_n2, s_astore_n3, s_astoreN_n, s_iinc, s_if_eq, s_if_lt, s_if_ge, s_if_gt, s_if_le, s_if_ne, s_ic_eq, s_ic_lt, s_ic_ge, s_ic_gt, s_ic_le, s_ic_ne, s_ifnn_r, s_ifnn_n, s_goto, s_nop, s_tab, s_getfield, s_putfield, s_anewarray, s_newarray, s_iaload, s_baload, s_caload, s_laload, s_daload, s_aaload, s_iastore, s_bastore, s_castore, s_lastore, s_dastore, s_aastore, s_arraylength, s_lreturn, s_freturn, s_dreturn, s_areturn, s_return, s_new, s_thr, ld_Z, ld_S, kl_Z, pd_0, pd_c, pd_n, ag_i, ag_r, ag_l, ag_n, st_Z, st_On, st_Oi, st_Or, st_Ol, st_S, s2_eq, mk_t, mk_f, mk_n, cl_v, cl_n, cl_if, vl_0, vl_1, vl_2, cv_i, cv_l, cv_d, cv_f, rf_s, qW_n, qW_i, qW_l, qW_r, qMem, x_get, x_putI, x_putL, x_ldL, x_ldI, x_ldA, x_stL, x_stI, x_isO, MK_1, MK_21, List.set_cons_zero, List.set_cons_succ, List.getElem?_cons_zero, List.getElem?_cons_succ, Option.map_some, List.tail_cons, i64_32, Nat.zero_add, Nat.reduceAdd, Nat.reduceLeDiff, Nat.le_refl, if_true, if_false, ite_true, ite_false, reduceIte, lnO, rfO, fn_0, f_0_0, f_0_1, f_0_2, f_0_3, f_0_4, f_0_5, f_0_6, f_0_7, f_0_8, f_0_9, f_0_10, f_0_11, f_0_12, f_0_13, f_0_14, fn_1, f_1_0, f_1_1, f_1_2, f_1_3, f_1_4, fn_2, f_2_0, f_2_1, f_2_2, f_2_3, f_2_4, f_2_5, fn_3, f_3_0, f_3_1, f_3_2, f_3_3, fn_4, f_4_0, f_4_1, f_4_2, f_4_3, f_4_4, f_4_5, fn_5, f_5_0, f_5_1, f_5_2, fn_6, f_6_0, f_6_1, f_6_2, fn_7, f_7_0, f_7_1, f_7_2, f_7_3, f_7_4, fn_8, f_8_0, f_8_1, f_8_2, f_8_3, f_8_4, f_8_5, f_8_6, f_8_7, fn_9, f_9_0, f_9_1, f_9_2, f_9_3, f_9_4, f_9_5, fn_10, f_10_0, f_10_1, f_10_2, f_10_3, f_10_4, f_10_5, f_10_6, f_10_7, f_10_8, f_10_9, f_10_10, f_10_11, f_10_12, f_10_13, f_10_14, f_10_15, f_10_16, f_10_17, f_10_18, f_10_19, f_10_20, f_10_21, f_10_22, f_10_23, Nat.reduceLT, h0, wg_ec, i1, i2, if_pos hx]
  · rw [if_neg hx]
    by_cases h9 : x < 0
    · simp -implicitDefEqProofs only [e81, K81_0, j81_0, K81_1, j81_1, K81_2, j81_2, r81_0, r81_1, x81, s_iadd, s_isub, s_imul, s_ineg, s_iand, s_ior, s_ixor, s_ishl, s_ishr, s_iushr, s_i2l, s_l2i, s_i2b, s_i2c, s_ladd, s_lsub, s_lmul, s_lneg, s_land, s_lor, s_lshl, s_lshr, s_lushr, s_lcmp, s_l2d, s_l2f, s_i2d, s_i2f, s_idiv, s_ldiv, s_irem, s_lrem, s_dcmp, s_fcmp, s_ddiv, s_fdiv, s_f2d, s_dup_i, s_dup_r, s_dup2_l, s_dup2_ir, s_pop, s_iconst, s_bipush, s_sipush, s_lconst, s_fconst, s_dconst, s_ldc, s_ldc_w, s_ldc2_w, s_iload, s_iload_n0, s_iload_n1, s_iload_n2, s_iload_n3, s_lload, s_lload_n0, s_lload_n1, s_lload_n2, s_lload_n3, s_fload, s_fload_n0, s_fload_n1, s_fload_n2, s_fload_n3, s_dload, s_dload_n0, s_dload_n1, s_dload_n2, s_dload_n3, s_aload, s_aload_n0, s_aload_n1, s_aload_n2, s_aload_n3, s_istore, s_istore_n0, s_istore_n1, s_istore_n2, s_istore_n3, s_lstore, s_lstore_n0, s_lstore_n1, s_lstore_n2, s_lstore_n3, s_fstore, s_fstore_n0, s_fstore_n1, s_fstore_n2, s_fstore_n3, s_dstore, s_dstore_n0, s_dstore_n1, s_dstore_n2, s_dstore_n3, s_astore, s_astore_n0, s_astore_n1, s_astore_n2, s_astore_n3, s_astoreN_n, s_iinc, s_if_eq, s_if_lt, s_if_ge, s_if_gt, s_if_le, s_if_ne, s_ic_eq, s_ic_lt, s_ic_ge, s_ic_gt, s_ic_le, s_ic_ne, s_ifnn_r, s_ifnn_n, s_goto, s_nop, s_tab, s_getfield, s_putfield, s_anewarray, s_newarray, s_iaload, s_baload, s_caload, s_laload, s_daload, s_aaload, s_iastore, s_bastore, s_castore, s_lastore, s_dastore, s_aastore, s_arraylength, s_lreturn, s_freturn, s_dreturn, s_areturn, s_return, s_new, s_thr, ld_Z, ld_S, kl_Z, pd_0, pd_c, pd_n, ag_i, ag_r, ag_l, ag_n, st_Z, st_On, st_Oi, st_Or, st_Ol, st_S, s2_eq, mk_t, mk_f, mk_n, cl_v, cl_n, cl_if, vl_0, vl_1, vl_2, cv_i, cv_l, cv_d, cv_f, rf_s, qW_n, qW_i, qW_l, qW_r, qMem, x_get, x_putI, x_putL, x_ldL, x_ldI, x_ldA, x_stL, x_stI, x_isO, MK_1, MK_21, List.set_cons_zero, List.set_cons_succ, List.getElem?_cons_zero, List.getElem?_cons_succ, Option.map_some, List.tail_cons, i64_32, Nat.zero_add, Nat.reduceAdd, Nat.reduceLeDiff, Nat.le_refl, if_true, if_false, ite_true, ite_false, reduceIte, lnO, rfO, fn_0, f_0_0, f_0_1, f_0_2, f_0_3, f_0_4, f_0_5, f_0_6, f_0_7, f_0_8, f_0_9, f_0_10, f_0_11, f_0_12, f_0_13, f_0_14, fn_1, f_1_0, f_1_1, f_1_2, f_1_3, f_1_4, fn_2, f_2_0, f_2_1, f_2_2, f_2_3, f_2_4, f_2_5, fn_3, f_3_0, f_3_1, f_3_2, f_3_3, fn_4, f_4_0, f_4_1, f_4_2, f_4_3, f_4_4, f_4_5, fn_5, f_5_0, f_5_1, f_5_2, fn_6, f_6_0, f_6_1, f_6_2, fn_7, f_7_0, f_7_1, f_7_2, f_7_3, f_7_4, fn_8, f_8_0, f_8_1, f_8_2, f_8_3, f_8_4, f_8_5, f_8_6, f_8_7, fn_9, f_9_0, f_9_1, f_9_2, f_9_3, f_9_4, f_9_5, fn_10, f_10_0, f_10_1, f_10_2, f_10_3, f_10_4, f_10_5, f_10_6, f_10_7, f_10_8, f_10_9, f_10_10, f_10_11, f_10_12, f_10_13, f_10_14, f_10_15, f_10_16, f_10_17, f_10_18, f_10_19, f_10_20, f_10_21, f_10_22, f_10_23, Nat.reduceLT, h0, wg_ec, h9]
    · have i2 : (C 1).toInt32 ≤ x := Int32.not_lt.mp fun q => hx ⟨Int32.not_lt.mp h9, q⟩
      simp -implicitDefEqProofs only [e81, K81_0, j81_0, K81_1, j81_1, K81_2, j81_2, r81_0, r81_1, x81, s_iadd, s_isub, s_imul, s_ineg, s_iand, s_ior, s_ixor, s_ishl, s_ishr, s_iushr, s_i2l, s_l2i, s_i2b, s_i2c, s_ladd, s_lsub, s_lmul, s_lneg, s_land, s_lor, s_lshl, s_lshr, s_lushr, s_lcmp, s_l2d, s_l2f, s_i2d, s_i2f, s_idiv, s_ldiv, s_irem, s_lrem, s_dcmp, s_fcmp, s_ddiv, s_fdiv, s_f2d, s_dup_i, s_dup_r, s_dup2_l, s_dup2_ir, s_pop, s_iconst, s_bipush, s_sipush, s_lconst, s_fconst, s_dconst, s_ldc, s_ldc_w, s_ldc2_w, s_iload, s_iload_n0, s_iload_n1, s_iload_n2, s_iload_n3, s_lload, s_lload_n0, s_lload_n1, s_lload_n2, s_lload_n3, s_fload, s_fload_n0, s_fload_n1, s_fload_n2, s_fload_n3, s_dload, s_dload_n0, s_dload_n1, s_dload_n2, s_dload_n3, s_aload, s_aload_n0, s_aload_n1, s_aload_n2, s_aload_n3, s_istore, s_istore_n0, s_istore_n1, s_istore_n2, s_istore_n3, s_lstore, s_lstore_n0, s_lstore_n1, s_lstore_n2, s_lstore_n3, s_fstore, s_fstore_n0, s_fstore_n1, s_fstore_n2, s_fstore_n3, s_dstore, s_dstore_n0, s_dstore_n1, s_dstore_n2, s_dstore_n3, s_astore, s_astore_n0, s_astore_n1, s_astore_n2, s_astore_n3, s_astoreN_n, s_iinc, s_if_eq, s_if_lt, s_if_ge, s_if_gt, s_if_le, s_if_ne, s_ic_eq, s_ic_lt, s_ic_ge, s_ic_gt, s_ic_le, s_ic_ne, s_ifnn_r, s_ifnn_n, s_goto, s_nop, s_tab, s_getfield, s_putfield, s_anewarray, s_newarray, s_iaload, s_baload, s_caload, s_laload, s_daload, s_aaload, s_iastore, s_bastore, s_castore, s_lastore, s_dastore, s_aastore, s_arraylength, s_lreturn, s_freturn, s_dreturn, s_areturn, s_return, s_new, s_thr, ld_Z, ld_S, kl_Z, pd_0, pd_c, pd_n, ag_i, ag_r, ag_l, ag_n, st_Z, st_On, st_Oi, st_Or, st_Ol, st_S, s2_eq, mk_t, mk_f, mk_n, cl_v, cl_n, cl_if, vl_0, vl_1, vl_2, cv_i, cv_l, cv_d, cv_f, rf_s, qW_n, qW_i, qW_l, qW_r, qMem, x_get, x_putI, x_putL, x_ldL, x_ldI, x_ldA, x_stL, x_stI, x_isO, MK_1, MK_21, List.set_cons_zero, List.set_cons_succ, List.getElem?_cons_zero, List.getElem?_cons_succ, Option.map_some, List.tail_cons, i64_32, Nat.zero_add, Nat.reduceAdd, Nat.reduceLeDiff, Nat.le_refl, if_true, if_false, ite_true, ite_false, reduceIte, lnO, rfO, fn_0, f_0_0, f_0_1, f_0_2, f_0_3, f_0_4, f_0_5, f_0_6, f_0_7, f_0_8, f_0_9, f_0_10, f_0_11, f_0_12, f_0_13, f_0_14, fn_1, f_1_0, f_1_1, f_1_2, f_1_3, f_1_4, fn_2, f_2_0, f_2_1, f_2_2, f_2_3, f_2_4, f_2_5, fn_3, f_3_0, f_3_1, f_3_2, f_3_3, fn_4, f_4_0, f_4_1, f_4_2, f_4_3, f_4_4, f_4_5, fn_5, f_5_0, f_5_1, f_5_2, fn_6, f_6_0, f_6_1, f_6_2, fn_7, f_7_0, f_7_1, f_7_2, f_7_3, f_7_4, fn_8, f_8_0, f_8_1, f_8_2, f_8_3, f_8_4, f_8_5, f_8_6, f_8_7, fn_9, f_9_0, f_9_1, f_9_2, f_9_3, f_9_4, f_9_5, fn_10, f_10_0, f_10_1, f_10_2, f_10_3, f_10_4, f_10_5, f_10_6, f_10_7, f_10_8, f_10_9, f_10_10, f_10_11, f_10_12, f_10_13, f_10_14, f_10_15, f_10_16, f_10_17, f_10_18, f_10_19, f_10_20, f_10_21, f_10_22, f_10_23, Nat.reduceLT, h0, wg_ec, h9, i2]
end BK2
