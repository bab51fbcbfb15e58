/-! ===== What is made new, 1 ===== -/
def yU (y : Nat → Option qSh) (a : Nat) (sh : qSh) : Nat → Option qSh := fun q => if q = a then some sh else y q
section CT1
variable {G : qG} {y : Nat → Option qSh} {μ ν : qMu} {n s a b k ci t len : Nat} {sh : qSh} {fds : List (Nat × Nat)}
theorem yU_eq : yU y a sh a = some sh := if_pos rfl
theorem yU_ne {q : Nat} (h : q ≠ a) : yU y a sh q = y q := if_neg h
theorem yU_yU {sh' : qSh} : yU (yU y a sh) a sh' = yU y a sh' := by
  funext q
  unfold yU
  split <;> rfl
theorem nw_ (h : qBorn ci = fds.mapIdx (fun _ fd => qVal fd 0)) : qNewC (MK y μ n s) (.inr (ci, qBorn ci)) k = MK (yU y n (.inl (ci, fds))) (stc μ n (fun _ => 0)) (n + 1) (s + k) := by
  unfold qNewC MK
  refine congrArg (fun z => (n + 1, s + k, z)) ?_
  funext q
  unfold yU
  by_cases hq : q = n
  · subst hq
    rw [if_pos rfl, if_pos rfl, stc_eq, h]
    rfl
  · rw [if_neg hq, if_neg hq, stc_ne hq]
theorem nwR (h : qZero t len = qCell sh (fun _ => 0)) : qNewC (MK y μ n s) (qZero t len) k = MK (yU y n sh) (stc μ n (fun _ => 0)) (n + 1) (s + k) := by
  unfold qNewC MK
  refine congrArg (fun z => (n + 1, s + k, z)) ?_
  funext q
  unfold yU
  by_cases hq : q = n
  · subst hq
    rw [if_pos rfl, if_pos rfl, stc_eq, h]
    rfl
  · rw [if_neg hq, if_neg hq, stc_ne hq]
def bo0 : List (Nat × Nat) := [(0, 0), (1, 0), (0, 0), (0, 0), (0, 0), (0, 0), (0, 0), (0, 0), (3, 0), (3, 0), (3, 0), (3, 0), (3, 0), (3, 0), (3, 0)]
def bo1 : List (Nat × Nat) := [(3, 0), (3, 0), (3, 0), (3, 0), (0, 0)]
def bo3 : List (Nat × Nat) := [(3, 0), (3, 0), (3, 0), (0, 0)]
def bo5 : List (Nat × Nat) := [(3, 0), (0, 0), (0, 0)]
def bo8 : List (Nat × Nat) := [(3, 0), (3, 0), (0, 0), (0, 0), (0, 0), (0, 0), (0, 0), (0, 0)]
def bo9 : List (Nat × Nat) := [(3, 0), (3, 0), (3, 0), (3, 0), (3, 0), (3, 0)]
def bo10 : List (Nat × Nat) := [(3, 0), (3, 0), (3, 0), (3, 0), (3, 0), (3, 0), (0, 0), (0, 0), (3, 0), (0, 0), (0, 0), (0, 0), (0, 0), (0, 0), (0, 0), (0, 0), (0, 0), (3, 0), (3, 0), (3, 0), (3, 0), (3, 0), (3, 0), (3, 0)]
theorem nw0 : qNewC (MK y μ n s) (.inr (0, qBorn 0)) k = MK (yU y n (.inl (0, bo0))) (stc μ n (fun _ => 0)) (n + 1) (s + k) := nw_ rfl
theorem nw1 : qNewC (MK y μ n s) (.inr (1, qBorn 1)) k = MK (yU y n (.inl (1, bo1))) (stc μ n (fun _ => 0)) (n + 1) (s + k) := nw_ rfl
theorem nw2 : qNewC (MK y μ n s) (.inr (2, qBorn 2)) k = MK (yU y n (.inl (2, shF 2 n))) (stc μ n (fun _ => 0)) (n + 1) (s + k) := nw_ rfl
theorem nw3 : qNewC (MK y μ n s) (.inr (3, qBorn 3)) k = MK (yU y n (.inl (3, bo3))) (stc μ n (fun _ => 0)) (n + 1) (s + k) := nw_ rfl
theorem nw4 : qNewC (MK y μ n s) (.inr (4, qBorn 4)) k = MK (yU y n (.inl (4, shF 4 n))) (stc μ n (fun _ => 0)) (n + 1) (s + k) := nw_ rfl
theorem nw5 : qNewC (MK y μ n s) (.inr (5, qBorn 5)) k = MK (yU y n (.inl (5, bo5))) (stc μ n (fun _ => 0)) (n + 1) (s + k) := nw_ rfl
theorem nw6 : qNewC (MK y μ n s) (.inr (6, qBorn 6)) k = MK (yU y n (.inl (6, bo5))) (stc μ n (fun _ => 0)) (n + 1) (s + k) := nw_ rfl
theorem nw7 : qNewC (MK y μ n s) (.inr (7, qBorn 7)) k = MK (yU y n (.inl (7, shF 7 n))) (stc μ n (fun _ => 0)) (n + 1) (s + k) := nw_ rfl
theorem nw8 : qNewC (MK y μ n s) (.inr (8, qBorn 8)) k = MK (yU y n (.inl (8, bo8))) (stc μ n (fun _ => 0)) (n + 1) (s + k) := nw_ rfl
theorem nw9 : qNewC (MK y μ n s) (.inr (9, qBorn 9)) k = MK (yU y n (.inl (9, bo9))) (stc μ n (fun _ => 0)) (n + 1) (s + k) := nw_ rfl
theorem nw10 : qNewC (MK y μ n s) (.inr (10, qBorn 10)) k = MK (yU y n (.inl (10, bo10))) (stc μ n (fun _ => 0)) (n + 1) (s + k) := nw_ rfl
theorem nwL : qNewC (MK y μ n s) (qZero 1 len) k = MK (yU y n (.inr (.inl (1, len)))) (stc μ n (fun _ => 0)) (n + 1) (s + k) := nwR rfl
theorem nwI0 : qNewC (MK y μ n s) (qZero 0 len) k = MK (yU y n (.inr (.inl (0, len)))) (stc μ n (fun _ => 0)) (n + 1) (s + k) := nwR rfl
theorem nwI2 : qNewC (MK y μ n s) (qZero 2 len) k = MK (yU y n (.inr (.inl (2, len)))) (stc μ n (fun _ => 0)) (n + 1) (s + k) := nwR rfl
theorem nwI3 : qNewC (MK y μ n s) (qZero 3 len) k = MK (yU y n (.inr (.inl (3, len)))) (stc μ n (fun _ => 0)) (n + 1) (s + k) := nwR rfl
theorem nwI4 : qNewC (MK y μ n s) (qZero 4 len) k = MK (yU y n (.inr (.inl (4, len)))) (stc μ n (fun _ => 0)) (n + 1) (s + k) := nwR rfl
theorem nwD : qNewC (MK y μ n s) (qZero 5 len) k = MK (yU y n (.inr (.inl (5, len)))) (stc μ n (fun _ => 0)) (n + 1) (s + k) := nwR rfl
theorem nwA (h : 10 ≤ t) : qNewC (MK y μ n s) (qZero t len) k = MK (yU y n (.inr (.inr (t, len, fun _ => none)))) (stc μ n (fun _ => 0)) (n + 1) (s + k) := nwR (by
  unfold qZero qCell
  rw [if_neg (by omega), if_neg (by omega), if_pos h])
/-- a reference put into a field; into an array -/
theorem pR {r z : Nat} (hy : y a = some (.inl (ci, fds))) (hk : k < fds.length) : qPutF (MK y μ n s) ci k 2 a (.ref r) = some (MK (yU y a (.inl (ci, fds.set k (2, r)))) μ n s) := by
  unfold qPutF
  rw [MK_at, hy]
  dsimp only [Option.map_some, qCell]
  rw [if_pos ⟨rfl, by rw [List.length_mapIdx]; exact hk, rfl⟩]
  unfold qSetC MK
  refine congrArg some (congrArg (fun z => (n, s, z)) ?_)
  funext q
  unfold yU
  by_cases hq : q = a
  · subst hq
    rw [if_pos rfl, if_pos rfl]
    refine congrArg some ?_
    unfold qCell
    dsimp only
    refine congrArg (fun z => (Sum.inr (ci, z) : qAC)) ?_
    apply List.ext_getElem?
    intro j
    rw [List.getElem?_set, List.getElem?_mapIdx, List.getElem?_mapIdx, List.getElem?_set, List.length_mapIdx]
    by_cases hj : k = j
    · rw [if_pos hj, if_pos hj, if_pos (by omega), if_pos (by omega)]
      rfl
    · rw [if_neg hj, if_neg hj]
  · rw [if_neg hq, if_neg hq]
theorem aR {v : Nat} {i : Int32} {f : Nat → Option Nat} (hy : y a = some (.inr (.inr (t, len, f)))) (ht : 10 ≤ t) (hi : ixok i len) (ho : qIsO (MK y μ n s) (t - 10) v = true) : qStA (MK y μ n s) t a i v = some (MK (yU y a (.inr (.inr (t, len, va_up f i.toNatClampNeg (some v))))) μ n s) := by
  have hq : qIn i len = true := by
    unfold qIn
    obtain ⟨h1, h2⟩ := hi
    simp only [Bool.not_eq_true', Bool.or_eq_false_iff, decide_eq_false_iff_not]
    exact ⟨Int32.not_lt.mpr h1, Nat.not_le.mpr h2⟩
  unfold qStA
  rw [MK_at, hy]
  dsimp only [Option.map_some, qCell]
  rw [if_pos ⟨rfl, ht, hq, ho⟩]
  unfold qSetC MK
  refine congrArg some (congrArg (fun z => (n, s, z)) ?_)
  funext q
  unfold yU
  by_cases hq : q = a
  · subst hq
    rw [if_pos rfl, if_pos rfl]
    rfl
  · rw [if_neg hq, if_neg hq]
theorem isO {v : Nat} (hy : y v = some (.inl (ci, fds))) : qIsO (MK y μ n s) ci v = true := by
  unfold qIsO
  rw [MK_at, hy]
  simp [qCell]
theorem c_obj {P : qPg} {m pc j x0 : Nat} {q : List Nat} {cv : Value} {es : List qEnt} {L : qLV} {r : List Value} {h : qHp} (hw : qW r ≤ 8) : qR P G (m, (pc, len, .invokespecial j, 5 :: q, cv) :: es, L, .ref x0 :: r, h) = qR P G (m, es, L, r, h) := by
  rw [qR_eq]
  have e : qStep P G (m, (pc, len, .invokespecial j, 5 :: q, cv) :: es, L, .ref x0 :: r, h) = some (.inr (.inl (m, es, L, r, h))) := by
    show qInv P m pc es (5 :: q) L (.ref x0 :: r) h = _
    simp only [qInv]
    rw [if_neg (by omega)]
  rw [e]
theorem t10 (h0 : y a = some (.inl (2, shF 2 a))) : qR PG G (qEntry PG 10 [.ref a] (MK y μ n s)) = some (.inl none, MK y (stc μ a (sv (μ a) 5 (-1))) n s) := by
  have z1 : Int32.toInt64 (-1) = -1 := rfl
  simp -implicitDefEqProofs only [e10, K10_0, j10_0, x10, s_iadd, s_isub, s_imul, s_ineg, s_iand, s_ior, s_ixor, s_ishl, s_ishr, s_iushr, s_i2l, s_l2i, s_i2b, s_i2c, s_ladd, s_lsub, s_lmul, s_lneg, s_land, s_lor, s_lshl, s_lshr, s_lushr, s_lcmp, s_l2d, s_l2f, s_i2d, s_i2f, s_idiv, s_ldiv, s_irem, s_lrem, s_dcmp, s_fcmp, s_ddiv, s_fdiv, s_f2d, s_dup_i, s_dup_r, s_dup2_l, s_dup2_ir, s_pop, s_iconst, s_bipush, s_sipush, s_lconst, s_fconst, s_dconst, s_ldc, s_ldc_w, s_ldc2_w, s_iload, s_iload_n0, s_iload_n1, s_iload_n2, s_iload_n3, s_lload, s_lload_n0, s_lload_n1, s_lload_n2, s_lload_n3, s_fload, s_fload_n0, s_fload_n1, s_fload_n2, s_fload_n3, s_dload, s_dload_n0, s_dload_n1, s_dload_n2, s_dload_n3, s_aload, s_aload_n0, s_aload_n1, s_aload_n2, s_aload_n3, s_istore, s_istore_n0, s_istore_n1, s_istore_n2, s_istore_n3, s_lstore, s_lstore_n0, s_lstore_n1, s_lstore_n2, s_lstore_n3, s_fstore, s_fstore_n0, s_fstore_n1, s_fstore_n2, s_fstore_n3, s_dstore, s_dstore_n0, s_dstore_n1, s_dstore_n2, s_dstore_n3, s_astore, s_astore_n0, s_astore_n1, s_astore_n2, s_astore_n3, s_astoreN_n, s_iinc, s_if_eq, s_if_lt, s_if_ge, s_if_gt, s_if_le, s_if_ne, s_ic_eq, s_ic_lt, s_ic_ge, s_ic_gt, s_ic_le, s_ic_ne, s_ifnn_r, s_ifnn_n, s_goto, s_nop, s_tab, s_getfield, s_putfield, s_anewarray, s_newarray, s_iaload, s_baload, s_caload, s_laload, s_daload, s_aaload, s_iastore, s_bastore, s_castore, s_lastore, s_dastore, s_aastore, s_arraylength, s_lreturn, s_freturn, s_dreturn, s_areturn, s_return, s_new, s_thr, ld_Z, ld_S, kl_Z, pd_0, pd_c, pd_n, ag_i, ag_r, ag_l, ag_n, st_Z, st_On, st_Oi, st_Or, st_Ol, st_S, s2_eq, mk_t, mk_f, mk_n, cl_v, cl_n, cl_if, vl_0, vl_1, vl_2, cv_i, cv_l, cv_d, cv_f, rf_s, qW_n, qW_i, qW_l, qW_r, qMem, x_get, x_putI, x_putL, x_ldL, x_ldI, x_ldA, x_stL, x_stI, x_isO, MK_1, MK_21, List.set_cons_zero, List.set_cons_succ, List.getElem?_cons_zero, List.getElem?_cons_succ, Option.map_some, List.tail_cons, i64_32, Nat.zero_add, Nat.reduceAdd, Nat.reduceLeDiff, Nat.le_refl, if_true, if_false, ite_true, ite_false, reduceIte, lnO, rfO, fn_0, f_0_0, f_0_1, f_0_2, f_0_3, f_0_4, f_0_5, f_0_6, f_0_7, f_0_8, f_0_9, f_0_10, f_0_11, f_0_12, f_0_13, f_0_14, fn_1, f_1_0, f_1_1, f_1_2, f_1_3, f_1_4, fn_2, f_2_0, f_2_1, f_2_2, f_2_3, f_2_4, f_2_5, fn_3, f_3_0, f_3_1, f_3_2, f_3_3, fn_4, f_4_0, f_4_1, f_4_2, f_4_3, f_4_4, f_4_5, fn_5, f_5_0, f_5_1, f_5_2, fn_6, f_6_0, f_6_1, f_6_2, fn_7, f_7_0, f_7_1, f_7_2, f_7_3, f_7_4, fn_8, f_8_0, f_8_1, f_8_2, f_8_3, f_8_4, f_8_5, f_8_6, f_8_7, fn_9, f_9_0, f_9_1, f_9_2, f_9_3, f_9_4, f_9_5, fn_10, f_10_0, f_10_1, f_10_2, f_10_3, f_10_4, f_10_5, f_10_6, f_10_7, f_10_8, f_10_9, f_10_10, f_10_11, f_10_12, f_10_13, f_10_14, f_10_15, f_10_16, f_10_17, f_10_18, f_10_19, f_10_20, f_10_21, f_10_22, f_10_23, Nat.reduceLT, cv_t, x_ld3, x_ld2, x_st3, x_st2, rm_g2, rm_g3, rm_g4, rm_g5, rm_g6, rm_g7, rm_s2, rm_s3, rm_s4, rm_s5, rm_s6, rm_s7, rm_t, c_obj, h0, z1]
theorem t11 (h0 : y a = some (.inl (4, shF 4 a))) : qR PG G (qEntry PG 11 [.ref a] (MK y μ n s)) = some (.inl none, MK y (stc μ a (sv (sv (μ a) 1 1) 2 (-1))) n s) := by
  have z1 : Int32.toInt64 (-1) = -1 := rfl
  have z2 : Int32.toInt64 1 = 1 := rfl
  simp -implicitDefEqProofs only [e11, K11_0, j11_0, x11, s_iadd, s_isub, s_imul, s_ineg, s_iand, s_ior, s_ixor, s_ishl, s_ishr, s_iushr, s_i2l, s_l2i, s_i2b, s_i2c, s_ladd, s_lsub, s_lmul, s_lneg, s_land, s_lor, s_lshl, s_lshr, s_lushr, s_lcmp, s_l2d, s_l2f, s_i2d, s_i2f, s_idiv, s_ldiv, s_irem, s_lrem, s_dcmp, s_fcmp, s_ddiv, s_fdiv, s_f2d, s_dup_i, s_dup_r, s_dup2_l, s_dup2_ir, s_pop, s_iconst, s_bipush, s_sipush, s_lconst, s_fconst, s_dconst, s_ldc, s_ldc_w, s_ldc2_w, s_iload, s_iload_n0, s_iload_n1, s_iload_n2, s_iload_n3, s_lload, s_lload_n0, s_lload_n1, s_lload_n2, s_lload_n3, s_fload, s_fload_n0, s_fload_n1, s_fload_n2, s_fload_n3, s_dload, s_dload_n0, s_dload_n1, s_dload_n2, s_dload_n3, s_aload, s_aload_n0, s_aload_n1, s_aload_n2, s_aload_n3, s_istore, s_istore_n0, s_istore_n1, s_istore_n2, s_istore_n3, s_lstore, s_lstore_n0, s_lstore_n1, s_lstore_n2, s_lstore_n3, s_fstore, s_fstore_n0, s_fstore_n1, s_fstore_n2, s_fstore_n3, s_dstore, s_dstore_n0, s_dstore_n1, s_dstore_n2, s_dstore_n3, s_astore, s_astore_n0, s_astore_n1, s_astore_n2, s_astore_n3, s_astoreN_n, s_iinc, s_if_eq, s_if_lt, s_if_ge, s_if_gt, s_if_le, s_if_ne, s_ic_eq, s_ic_lt, s_ic_ge, s_ic_gt, s_ic_le, s_ic_ne, s_ifnn_r, s_ifnn_n, s_goto, s_nop, s_tab, s_getfield, s_putfield, s_anewarray, s_newarray, s_iaload, s_baload, s_caload, s_laload, s_daload, s_aaload, s_iastore, s_bastore, s_castore, s_lastore, s_dastore, s_aastore, s_arraylength, s_lreturn, s_freturn, s_dreturn, s_areturn, s_return, s_new, s_thr, ld_Z, ld_S, kl_Z, pd_0, pd_c, pd_n, ag_i, ag_r, ag_l, ag_n, st_Z, st_On, st_Oi, st_Or, st_Ol, st_S, s2_eq, mk_t, mk_f, mk_n, cl_v, cl_n, cl_if, vl_0, vl_1, vl_2, cv_i, cv_l, cv_d, cv_f, rf_s, qW_n, qW_i, qW_l, qW_r, qMem, x_get, x_putI, x_putL, x_ldL, x_ldI, x_ldA, x_stL, x_stI, x_isO, MK_1, MK_21, List.set_cons_zero, List.set_cons_succ, List.getElem?_cons_zero, List.getElem?_cons_succ, Option.map_some, List.tail_cons, i64_32, Nat.zero_add, Nat.reduceAdd, Nat.reduceLeDiff, Nat.le_refl, if_true, if_false, ite_true, ite_false, reduceIte, lnO, rfO, fn_0, f_0_0, f_0_1, f_0_2, f_0_3, f_0_4, f_0_5, f_0_6, f_0_7, f_0_8, f_0_9, f_0_10, f_0_11, f_0_12, f_0_13, f_0_14, fn_1, f_1_0, f_1_1, f_1_2, f_1_3, f_1_4, fn_2, f_2_0, f_2_1, f_2_2, f_2_3, f_2_4, f_2_5, fn_3, f_3_0, f_3_1, f_3_2, f_3_3, fn_4, f_4_0, f_4_1, f_4_2, f_4_3, f_4_4, f_4_5, fn_5, f_5_0, f_5_1, f_5_2, fn_6, f_6_0, f_6_1, f_6_2, fn_7, f_7_0, f_7_1, f_7_2, f_7_3, f_7_4, fn_8, f_8_0, f_8_1, f_8_2, f_8_3, f_8_4, f_8_5, f_8_6, f_8_7, fn_9, f_9_0, f_9_1, f_9_2, f_9_3, f_9_4, f_9_5, fn_10, f_10_0, f_10_1, f_10_2, f_10_3, f_10_4, f_10_5, f_10_6, f_10_7, f_10_8, f_10_9, f_10_10, f_10_11, f_10_12, f_10_13, f_10_14, f_10_15, f_10_16, f_10_17, f_10_18, f_10_19, f_10_20, f_10_21, f_10_22, f_10_23, Nat.reduceLT, cv_t, x_ld3, x_ld2, x_st3, x_st2, rm_g2, rm_g3, rm_g4, rm_g5, rm_g6, rm_g7, rm_s2, rm_s3, rm_s4, rm_s5, rm_s6, rm_s7, rm_t, c_obj, h0, z1, z2, stc_eq, stc_stc]
theorem t12 (h0 : y a = some (.inl (7, shF 7 a))) : qR PG G (qEntry PG 12 [.ref a] (MK y μ n s)) = some (.inl none, MK y (stc μ a (sv (sv (μ a) 0 (-1)) 3 (-1))) n s) := by
  have z1 : Int32.toInt64 (-1) = -1 := rfl
  simp -implicitDefEqProofs only [e12, K12_0, j12_0, x12, s_iadd, s_isub, s_imul, s_ineg, s_iand, s_ior, s_ixor, s_ishl, s_ishr, s_iushr, s_i2l, s_l2i, s_i2b, s_i2c, s_ladd, s_lsub, s_lmul, s_lneg, s_land, s_lor, s_lshl, s_lshr, s_lushr, s_lcmp, s_l2d, s_l2f, s_i2d, s_i2f, s_idiv, s_ldiv, s_irem, s_lrem, s_dcmp, s_fcmp, s_ddiv, s_fdiv, s_f2d, s_dup_i, s_dup_r, s_dup2_l, s_dup2_ir, s_pop, s_iconst, s_bipush, s_sipush, s_lconst, s_fconst, s_dconst, s_ldc, s_ldc_w, s_ldc2_w, s_iload, s_iload_n0, s_iload_n1, s_iload_n2, s_iload_n3, s_lload, s_lload_n0, s_lload_n1, s_lload_n2, s_lload_n3, s_fload, s_fload_n0, s_fload_n1, s_fload_n2, s_fload_n3, s_dload, s_dload_n0, s_dload_n1, s_dload_n2, s_dload_n3, s_aload, s_aload_n0, s_aload_n1, s_aload_n2, s_aload_n3, s_istore, s_istore_n0, s_istore_n1, s_istore_n2, s_istore_n3, s_lstore, s_lstore_n0, s_lstore_n1, s_lstore_n2, s_lstore_n3, s_fstore, s_fstore_n0, s_fstore_n1, s_fstore_n2, s_fstore_n3, s_dstore, s_dstore_n0, s_dstore_n1, s_dstore_n2, s_dstore_n3, s_astore, s_astore_n0, s_astore_n1, s_astore_n2, s_astore_n3, s_astoreN_n, s_iinc, s_if_eq, s_if_lt, s_if_ge, s_if_gt, s_if_le, s_if_ne, s_ic_eq, s_ic_lt, s_ic_ge, s_ic_gt, s_ic_le, s_ic_ne, s_ifnn_r, s_ifnn_n, s_goto, s_nop, s_tab, s_getfield, s_putfield, s_anewarray, s_newarray, s_iaload, s_baload, s_caload, s_laload, s_daload, s_aaload, s_iastore, s_bastore, s_castore, s_lastore, s_dastore, s_aastore, s_arraylength, s_lreturn, s_freturn, s_dreturn, s_areturn, s_return, s_new, s_thr, ld_Z, ld_S, kl_Z, pd_0, pd_c, pd_n, ag_i, ag_r, ag_l, ag_n, st_Z, st_On, st_Oi, st_Or, st_Ol, st_S, s2_eq, mk_t, mk_f, mk_n, cl_v, cl_n, cl_if, vl_0, vl_1, vl_2, cv_i, cv_l, cv_d, cv_f, rf_s, qW_n, qW_i, qW_l, qW_r, qMem, x_get, x_putI, x_putL, x_ldL, x_ldI, x_ldA, x_stL, x_stI, x_isO, MK_1, MK_21, List.set_cons_zero, List.set_cons_succ, List.getElem?_cons_zero, List.getElem?_cons_succ, Option.map_some, List.tail_cons, i64_32, Nat.zero_add, Nat.reduceAdd, Nat.reduceLeDiff, Nat.le_refl, if_true, if_false, ite_true, ite_false, reduceIte, lnO, rfO, fn_0, f_0_0, f_0_1, f_0_2, f_0_3, f_0_4, f_0_5, f_0_6, f_0_7, f_0_8, f_0_9, f_0_10, f_0_11, f_0_12, f_0_13, f_0_14, fn_1, f_1_0, f_1_1, f_1_2, f_1_3, f_1_4, fn_2, f_2_0, f_2_1, f_2_2, f_2_3, f_2_4, f_2_5, fn_3, f_3_0, f_3_1, f_3_2, f_3_3, fn_4, f_4_0, f_4_1, f_4_2, f_4_3, f_4_4, f_4_5, fn_5, f_5_0, f_5_1, f_5_2, fn_6, f_6_0, f_6_1, f_6_2, fn_7, f_7_0, f_7_1, f_7_2, f_7_3, f_7_4, fn_8, f_8_0, f_8_1, f_8_2, f_8_3, f_8_4, f_8_5, f_8_6, f_8_7, fn_9, f_9_0, f_9_1, f_9_2, f_9_3, f_9_4, f_9_5, fn_10, f_10_0, f_10_1, f_10_2, f_10_3, f_10_4, f_10_5, f_10_6, f_10_7, f_10_8, f_10_9, f_10_10, f_10_11, f_10_12, f_10_13, f_10_14, f_10_15, f_10_16, f_10_17, f_10_18, f_10_19, f_10_20, f_10_21, f_10_22, f_10_23, Nat.reduceLT, cv_t, x_ld3, x_ld2, x_st3, x_st2, rm_g2, rm_g3, rm_g4, rm_g5, rm_g6, rm_g7, rm_s2, rm_s3, rm_s4, rm_s5, rm_s6, rm_s7, rm_t, c_obj, h0, z1, stc_eq, stc_stc]
theorem t9 (h0 : y a = some (.inl (6, bo5))) (ha : a < n) : qR PG G (qEntry PG 9 [.ref a] (MK y μ n s)) = some (.inl none, MK (yU (yU y n (.inr (.inl (1, 200)))) a (.inl (6, [(2, n), (0, 0), (0, 0)]))) (stc μ n (fun _ => 0)) (n + 1) (s + 200)) := by
  have z1 : (200 : Int32).toNatClampNeg = 200 := rfl
  have z2 : (0 : Int32) ≤ 200 := by decide
  have p := fun (r : Nat) => pR (μ := stc μ n (fun _ => 0)) (n := n + 1) (s := s + 200) (y := yU y n (.inr (.inl (1, 200)))) (k := 0) (r := r) (z := 0) (a := a) (ci := 6) (fds := bo5) (by rw [yU_ne (by omega)]; exact h0) (by decide)
  simp only [bo5, List.set_cons_zero] at p
  simp -implicitDefEqProofs only [e9, K9_0, j9_0, x9, s_iadd, s_isub, s_imul, s_ineg, s_iand, s_ior, s_ixor, s_ishl, s_ishr, s_iushr, s_i2l, s_l2i, s_i2b, s_i2c, s_ladd, s_lsub, s_lmul, s_lneg, s_land, s_lor, s_lshl, s_lshr, s_lushr, s_lcmp, s_l2d, s_l2f, s_i2d, s_i2f, s_idiv, s_ldiv, s_irem, s_lrem, s_dcmp, s_fcmp, s_ddiv, s_fdiv, s_f2d, s_dup_i, s_dup_r, s_dup2_l, s_dup2_ir, s_pop, s_iconst, s_bipush, s_sipush, s_lconst, s_fconst, s_dconst, s_ldc, s_ldc_w, s_ldc2_w, s_iload, s_iload_n0, s_iload_n1, s_iload_n2, s_iload_n3, s_lload, s_lload_n0, s_lload_n1, s_lload_n2, s_lload_n3, s_fload, s_fload_n0, s_fload_n1, s_fload_n2, s_fload_n3, s_dload, s_dload_n0, s_dload_n1, s_dload_n2, s_dload_n3, s_aload, s_aload_n0, s_aload_n1, s_aload_n2, s_aload_n3, s_istore, s_istore_n0, s_istore_n1, s_istore_n2, s_istore_n3, s_lstore, s_lstore_n0, s_lstore_n1, s_lstore_n2, s_lstore_n3, s_fstore, s_fstore_n0, s_fstore_n1, s_fstore_n2, s_fstore_n3, s_dstore, s_dstore_n0, s_dstore_n1, s_dstore_n2, s_dstore_n3, s_astore, s_astore_n0, s_astore_n1, s_astore_n2, s_astore_n3, s_astoreN_n, s_iinc, s_if_eq, s_if_lt, s_if_ge, s_if_gt, s_if_le, s_if_ne, s_ic_eq, s_ic_lt, s_ic_ge, s_ic_gt, s_ic_le, s_ic_ne, s_ifnn_r, s_ifnn_n, s_goto, s_nop, s_tab, s_getfield, s_putfield, s_anewarray, s_newarray, s_iaload, s_baload, s_caload, s_laload, s_daload, s_aaload, s_iastore, s_bastore, s_castore, s_lastore, s_dastore, s_aastore, s_arraylength, s_lreturn, s_freturn, s_dreturn, s_areturn, s_return, s_new, s_thr, ld_Z, ld_S, kl_Z, pd_0, pd_c, pd_n, ag_i, ag_r, ag_l, ag_n, st_Z, st_On, st_Oi, st_Or, st_Ol, st_S, s2_eq, mk_t, mk_f, mk_n, cl_v, cl_n, cl_if, vl_0, vl_1, vl_2, cv_i, cv_l, cv_d, cv_f, rf_s, qW_n, qW_i, qW_l, qW_r, qMem, x_get, x_putI, x_putL, x_ldL, x_ldI, x_ldA, x_stL, x_stI, x_isO, MK_1, MK_21, List.set_cons_zero, List.set_cons_succ, List.getElem?_cons_zero, List.getElem?_cons_succ, Option.map_some, List.tail_cons, i64_32, Nat.zero_add, Nat.reduceAdd, Nat.reduceLeDiff, Nat.le_refl, if_true, if_false, ite_true, ite_false, reduceIte, lnO, rfO, fn_0, f_0_0, f_0_1, f_0_2, f_0_3, f_0_4, f_0_5, f_0_6, f_0_7, f_0_8, f_0_9, f_0_10, f_0_11, f_0_12, f_0_13, f_0_14, fn_1, f_1_0, f_1_1, f_1_2, f_1_3, f_1_4, fn_2, f_2_0, f_2_1, f_2_2, f_2_3, f_2_4, f_2_5, fn_3, f_3_0, f_3_1, f_3_2, f_3_3, fn_4, f_4_0, f_4_1, f_4_2, f_4_3, f_4_4, f_4_5, fn_5, f_5_0, f_5_1, f_5_2, fn_6, f_6_0, f_6_1, f_6_2, fn_7, f_7_0, f_7_1, f_7_2, f_7_3, f_7_4, fn_8, f_8_0, f_8_1, f_8_2, f_8_3, f_8_4, f_8_5, f_8_6, f_8_7, fn_9, f_9_0, f_9_1, f_9_2, f_9_3, f_9_4, f_9_5, fn_10, f_10_0, f_10_1, f_10_2, f_10_3, f_10_4, f_10_5, f_10_6, f_10_7, f_10_8, f_10_9, f_10_10, f_10_11, f_10_12, f_10_13, f_10_14, f_10_15, f_10_16, f_10_17, f_10_18, f_10_19, f_10_20, f_10_21, f_10_22, f_10_23, Nat.reduceLT, cv_t, x_ld3, x_ld2, x_st3, x_st2, rm_g2, rm_g3, rm_g4, rm_g5, rm_g6, rm_g7, rm_s2, rm_s3, rm_s4, rm_s5, rm_s6, rm_s7, rm_t, c_obj, h0, z1, z2, nwL, p, and_self, true_and, Nat.reduceLT]
end CT1
