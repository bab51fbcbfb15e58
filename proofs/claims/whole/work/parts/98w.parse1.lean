/-! ===== The model's parser, 1 ===== -/
def mS (d : QF) (L bg st : Nat) (P : PS) : QF := fun k => if k = 9 then (nI L).toInt64 else if k = 10 then (nI P.1).toInt64 else if k = 11 then (nI bg).toInt64 else if k = 12 then P.2.1.toInt64 else if k = 13 then P.2.2.1.toInt64 else if k = 14 then (nI st).toInt64 else d k
def PQ (μ : qMu) (M L bg st : Nat) (P : PS) (E : Row) : qMu := stc (stc μ M (mS (μ M) L bg st P)) (M + 2) E
/-- bytes and characters -/
def HB (B T : QF) (L : Nat) : Prop := ∀ i, i < L → ∃ t, 0 < t ∧ t < 256 ∧ T i = (nI t).toInt64 ∧ B i = ((nI t).toInt8.toInt32).toInt64
theorem by_and : ∀ t, t < 256 → (nI t).toInt8.toInt32 &&& 255 = nI t := by decide +kernel
theorem by_eq : ∀ c, c < 128 → ∀ t, t < 256 → ((nI t).toInt8.toInt32 = nI c ↔ nI t = nI c) := by decide +kernel
section MPA
variable {G : qG} {y : Nat → Option qSh} {μ : qMu} {M n s L bg st : Nat} {P Q : PS} {E T : QF}
theorem pq_M : PQ μ M L bg st P E M = mS (μ M) L bg st P := by unfold PQ; rw [stc_ne (by omega), stc_eq]
theorem pq_E : PQ μ M L bg st P E (M + 2) = E := by unfold PQ; rw [stc_eq]
theorem pq_o {a : Nat} (h : a ≠ M) (h2 : a ≠ M + 2) : PQ μ M L bg st P E a = μ a := by unfold PQ; rw [stc_ne h2, stc_ne h]
theorem pq_sE {E' : Row} : stc (PQ μ M L bg st P E) (M + 2) E' = PQ μ M L bg st P E' := by unfold PQ; rw [stc_stc]
theorem pq_set {d : QF} {L' bg' st' : Nat} {P' : PS} (h : d = mS (μ M) L' bg' st' P') : stc (PQ μ M L bg st P E) M d = PQ μ M L' bg' st' P' E := by
  unfold PQ
  rw [stc_comm (a := M + 2) (b := M) (by omega), stc_stc, h]
theorem mS_sv {d : QF} {v : Int64} {k L' bg' st' : Nat} {P' : PS} (hk : mS d L' bg' st' P' k = v) (ho : ∀ j, j ≠ k → mS d L bg st P j = mS d L' bg' st' P' j) : sv (mS d L bg st P) k v = mS d L' bg' st' P' := by
  funext j
  rw [sv_get]
  split
  · rename_i hj
    rw [hj, hk]
  · rename_i hj
    exact ho j hj
theorem pq_g9 : PQ μ M L bg st P E M 9 = (nI L).toInt64 := by rw [pq_M]; rfl
theorem pq_g10 : PQ μ M L bg st P E M 10 = (nI P.1).toInt64 := by rw [pq_M]; rfl
theorem pq_g11 : PQ μ M L bg st P E M 11 = (nI bg).toInt64 := by rw [pq_M]; rfl
theorem pq_g12 : PQ μ M L bg st P E M 12 = P.2.1.toInt64 := by rw [pq_M]; rfl
theorem pq_g13 : PQ μ M L bg st P E M 13 = P.2.2.1.toInt64 := by rw [pq_M]; rfl
theorem pq_g14 : PQ μ M L bg st P E M 14 = (nI st).toInt64 := by rw [pq_M]; rfl
theorem pq_s9 {q : Nat} : stc (PQ μ M L bg st P E) M (sv (PQ μ M L bg st P E M) 9 (nI q).toInt64) = PQ μ M q bg st P E := by
  rw [pq_M]
  refine pq_set (mS_sv rfl fun j hj => ?_)
  unfold mS
  rw [if_neg hj, if_neg hj]
theorem pq_s10 {q : Nat} : stc (PQ μ M L bg st P E) M (sv (PQ μ M L bg st P E M) 10 (nI q).toInt64) = PQ μ M L bg st (q, P.2) E := by
  rw [pq_M]
  refine pq_set (mS_sv rfl fun j hj => ?_)
  unfold mS
  by_cases h9 : j = 9
  · rw [if_pos h9, if_pos h9]
  · rw [if_neg h9, if_neg h9, if_neg hj, if_neg hj]
theorem pq_s11 {q : Nat} : stc (PQ μ M L bg st P E) M (sv (PQ μ M L bg st P E M) 11 (nI q).toInt64) = PQ μ M L q st P E := by
  rw [pq_M]
  refine pq_set (mS_sv rfl fun j hj => ?_)
  unfold mS
  by_cases h9 : j = 9
  · rw [if_pos h9, if_pos h9]
  · by_cases h10 : j = 10
    · rw [if_neg h9, if_neg h9, if_pos h10, if_pos h10]
    · rw [if_neg h9, if_neg h9, if_neg h10, if_neg h10, if_neg hj, if_neg hj]
theorem pq_s12 {q : Int32} : stc (PQ μ M L bg st P E) M (sv (PQ μ M L bg st P E M) 12 q.toInt64) = PQ μ M L bg st (P.1, q, P.2.2) E := by
  rw [pq_M]
  refine pq_set (mS_sv rfl fun j hj => ?_)
  unfold mS
  by_cases h9 : j = 9
  · rw [if_pos h9, if_pos h9]
  · by_cases h10 : j = 10
    · rw [if_neg h9, if_neg h9, if_pos h10, if_pos h10]
    · by_cases h11 : j = 11
      · rw [if_neg h9, if_neg h9, if_neg h10, if_neg h10, if_pos h11, if_pos h11]
      · rw [if_neg h9, if_neg h9, if_neg h10, if_neg h10, if_neg h11, if_neg h11, if_neg hj, if_neg hj]
theorem pq_s13 {q : Int32} : stc (PQ μ M L bg st P E) M (sv (PQ μ M L bg st P E M) 13 q.toInt64) = PQ μ M L bg st (P.1, P.2.1, q, P.2.2.2) E := by
  rw [pq_M]
  refine pq_set (mS_sv rfl fun j hj => ?_)
  unfold mS
  by_cases h9 : j = 9
  · rw [if_pos h9, if_pos h9]
  · by_cases h10 : j = 10
    · rw [if_neg h9, if_neg h9, if_pos h10, if_pos h10]
    · by_cases h11 : j = 11
      · rw [if_neg h9, if_neg h9, if_neg h10, if_neg h10, if_pos h11, if_pos h11]
      · by_cases h12 : j = 12
        · rw [if_neg h9, if_neg h9, if_neg h10, if_neg h10, if_neg h11, if_neg h11, if_pos h12, if_pos h12]
        · rw [if_neg h9, if_neg h9, if_neg h10, if_neg h10, if_neg h11, if_neg h11, if_neg h12, if_neg h12, if_neg hj, if_neg hj]
theorem pq_s14 {q : Nat} : stc (PQ μ M L bg st P E) M (sv (PQ μ M L bg st P E M) 14 (nI q).toInt64) = PQ μ M L bg q P E := by
  rw [pq_M]
  refine pq_set (mS_sv rfl fun j hj => ?_)
  unfold mS
  by_cases h9 : j = 9
  · rw [if_pos h9, if_pos h9]
  · by_cases h10 : j = 10
    · rw [if_neg h9, if_neg h9, if_pos h10, if_pos h10]
    · by_cases h11 : j = 11
      · rw [if_neg h9, if_neg h9, if_neg h10, if_neg h10, if_pos h11, if_pos h11]
      · by_cases h12 : j = 12
        · rw [if_neg h9, if_neg h9, if_neg h10, if_neg h10, if_neg h11, if_neg h11, if_pos h12, if_pos h12]
        · by_cases h13 : j = 13
          · rw [if_neg h9, if_neg h9, if_neg h10, if_neg h10, if_neg h11, if_neg h11, if_neg h12, if_neg h12, if_pos h13, if_pos h13]
          · rw [if_neg h9, if_neg h9, if_neg h10, if_neg h10, if_neg h11, if_neg h11, if_neg h12, if_neg h12, if_neg h13, if_neg h13, if_neg hj, if_neg hj]
/-- what stands here -/
def hrT (T : QF) (L p : Nat) : Int32 := if p < L then (T p).toInt32 else -1
theorem t164 (hM : ML y M) (hA : MA y M) (hT : HB (μ (M + 7)) T L) (hL : L ≤ 900) (hp : P.1 ≤ L) : qR PG G (qEntry PG 164 [.ref M] (MK y (PQ μ M L bg st P E) n s)) = some (.inl (some (.int (hrT T L P.1))), MK y (PQ μ M L bg st P E) n s) := by
  obtain ⟨h0, h1⟩ := hM
  have h7 := hA.2.2.2.2.2.1
  have x_ld2' := fun (hi : ixok (nI P.1) 900) => (x_ldI (y := y) (μ := PQ μ M L bg st P E) (n := n) (s := s) (t := 2) (a := M + 7) (i := nI P.1) (by rw [show lnO y (M + 7) = 900 by unfold lnO; rw [h7]]; exact h7) (by decide) (by rw [show lnO y (M + 7) = 900 by unfold lnO; rw [h7]]; exact hi))
  unfold hrT
  by_cases hq : P.1 < L
  · rw [if_pos hq]
    obtain ⟨t, t0, t1, e1, e2⟩ := hT _ hq
    have a1 : ¬ nI L ≤ nI P.1 := by rw [mI_le (by omega) (by omega)]; omega
    have a2 : ixok (nI P.1) 900 := ixok_n (by omega) (by decide)
    have a3 : (nI P.1).toNatClampNeg = P.1 := nI_clamp (by omega)
    have g7 : (PQ μ M L bg st P E (M + 7) P.1).toInt32 = (nI t).toInt8.toInt32 := by rw [pq_o (by omega) (by omega), e2, i64_32]
    have ga := by_and t t1
    rw [e1, i64_32]
    simp -implicitDefEqProofs only [e164, K164_0, j164_0, K164_1, j164_1, K164_2, j164_2, r164, s_iadd, s_isub, s_imul, s_ineg, s_iand, s_ior, s_ixor, s_ishl, s_ishr, s_iushr, s_i2l, s_l2i, s_i2b, s_i2c, s_ladd, s_lsub, s_lmul, s_lneg, s_land, s_lor, s_lshl, s_lshr, s_lushr, s_lcmp, s_l2d, s_l2f, s_i2d, s_i2f, s_idiv, s_ldiv, s_irem, s_lrem, s_dcmp, s_fcmp, s_ddiv, s_fdiv, s_f2d, s_dup_i, s_dup_r, s_dup2_l, s_dup2_ir, s_pop, s_iconst, s_bipush, s_sipush, s_lconst, s_fconst, s_dconst, s_ldc, s_ldc_w, s_ldc2_w, s_iload, s_iload_n0, s_iload_n1, s_iload_n2, s_iload_n3, s_lload, s_lload_n0, s_lload_n1, s_lload_n2, s_lload_n3, s_fload, s_fload_n0, s_fload_n1, s_fload_n2, s_fload_n3, s_dload, s_dload_n0, s_dload_n1, s_dload_n2, s_dload_n3, s_aload, s_aload_n0, s_aload_n1, s_aload_n2, s_aload_n3, s_istore, s_istore_n0, s_istore_n1, s_istore_n2, s_istore_n3, s_lstore, s_lstore_n0, s_lstore_n1, s_lstore_n2, s_lstore_n3, s_fstore, s_fstore_n0, s_fstore_n1, s_fstore_n2, s_fstore_n3, s_dstore, s_dstore_n0, s_dstore_n1, s_dstore_n2, s_dstore_n3, s_astore, s_astore_n0, s_astore_n1, s_astore_n2, s_astore_n3, s_astoreN_n, s_iinc, s_if_eq, s_if_lt, s_if_ge, s_if_gt, s_if_le, s_if_ne, s_ic_eq, s_ic_lt, s_ic_ge, s_ic_gt, s_ic_le, s_ic_ne, s_ifnn_r, s_ifnn_n, s_goto, s_nop, s_tab, s_getfield, s_putfield, s_anewarray, s_newarray, s_iaload, s_baload, s_caload, s_laload, s_daload, s_aaload, s_iastore, s_bastore, s_castore, s_lastore, s_dastore, s_aastore, s_arraylength, s_lreturn, s_freturn, s_dreturn, s_areturn, s_return, s_new, s_thr, ld_Z, ld_S, kl_Z, pd_0, pd_c, pd_n, ag_i, ag_r, ag_l, ag_n, st_Z, st_On, st_Oi, st_Or, st_Ol, st_S, s2_eq, mk_t, mk_f, mk_n, cl_v, cl_n, cl_if, vl_0, vl_1, vl_2, cv_i, cv_l, cv_d, cv_f, rf_s, qW_n, qW_i, qW_l, qW_r, qMem, x_get, x_putI, x_putL, x_ldL, x_ldI, x_ldA, x_stL, x_stI, x_isO, MK_1, MK_21, List.set_cons_zero, List.set_cons_succ, List.getElem?_cons_zero, List.getElem?_cons_succ, Option.map_some, List.tail_cons, i64_32, Nat.zero_add, Nat.reduceAdd, Nat.reduceLeDiff, Nat.le_refl, if_true, if_false, ite_true, ite_false, reduceIte, lnO, rfO, fn_0, f_0_0, f_0_1, f_0_2, f_0_3, f_0_4, f_0_5, f_0_6, f_0_7, f_0_8, f_0_9, f_0_10, f_0_11, f_0_12, f_0_13, f_0_14, fn_1, f_1_0, f_1_1, f_1_2, f_1_3, f_1_4, fn_2, f_2_0, f_2_1, f_2_2, f_2_3, f_2_4, f_2_5, fn_3, f_3_0, f_3_1, f_3_2, f_3_3, fn_4, f_4_0, f_4_1, f_4_2, f_4_3, f_4_4, f_4_5, fn_5, f_5_0, f_5_1, f_5_2, fn_6, f_6_0, f_6_1, f_6_2, fn_7, f_7_0, f_7_1, f_7_2, f_7_3, f_7_4, fn_8, f_8_0, f_8_1, f_8_2, f_8_3, f_8_4, f_8_5, f_8_6, f_8_7, fn_9, f_9_0, f_9_1, f_9_2, f_9_3, f_9_4, f_9_5, fn_10, f_10_0, f_10_1, f_10_2, f_10_3, f_10_4, f_10_5, f_10_6, f_10_7, f_10_8, f_10_9, f_10_10, f_10_11, f_10_12, f_10_13, f_10_14, f_10_15, f_10_16, f_10_17, f_10_18, f_10_19, f_10_20, f_10_21, f_10_22, f_10_23, Nat.reduceLT, cv_t, x_ld3, x_ld2, x_st3, x_st2, rm_g2, rm_g3, rm_g4, rm_g5, rm_g6, rm_g7, rm_s2, rm_s3, rm_s4, rm_s5, rm_s6, rm_s7, rm_t, h0, h7, pq_g9, pq_g10, a1, a2, a3, g7, ga]
  · rw [if_neg hq]
    have a1 : nI L ≤ nI P.1 := by rw [mI_le (by omega) (by omega)]; omega
    simp -implicitDefEqProofs only [e164, K164_0, j164_0, K164_1, j164_1, K164_2, j164_2, r164, s_iadd, s_isub, s_imul, s_ineg, s_iand, s_ior, s_ixor, s_ishl, s_ishr, s_iushr, s_i2l, s_l2i, s_i2b, s_i2c, s_ladd, s_lsub, s_lmul, s_lneg, s_land, s_lor, s_lshl, s_lshr, s_lushr, s_lcmp, s_l2d, s_l2f, s_i2d, s_i2f, s_idiv, s_ldiv, s_irem, s_lrem, s_dcmp, s_fcmp, s_ddiv, s_fdiv, s_f2d, s_dup_i, s_dup_r, s_dup2_l, s_dup2_ir, s_pop, s_iconst, s_bipush, s_sipush, s_lconst, s_fconst, s_dconst, s_ldc, s_ldc_w, s_ldc2_w, s_iload, s_iload_n0, s_iload_n1, s_iload_n2, s_iload_n3, s_lload, s_lload_n0, s_lload_n1, s_lload_n2, s_lload_n3, s_fload, s_fload_n0, s_fload_n1, s_fload_n2, s_fload_n3, s_dload, s_dload_n0, s_dload_n1, s_dload_n2, s_dload_n3, s_aload, s_aload_n0, s_aload_n1, s_aload_n2, s_aload_n3, s_istore, s_istore_n0, s_istore_n1, s_istore_n2, s_istore_n3, s_lstore, s_lstore_n0, s_lstore_n1, s_lstore_n2, s_lstore_n3, s_fstore, s_fstore_n0, s_fstore_n1, s_fstore_n2, s_fstore_n3, s_dstore, s_dstore_n0, s_dstore_n1, s_dstore_n2, s_dstore_n3, s_astore, s_astore_n0, s_astore_n1, s_astore_n2, s_astore_n3, s_astoreN_n, s_iinc, s_if_eq, s_if_lt, s_if_ge, s_if_gt, s_if_le, s_if_ne, s_ic_eq, s_ic_lt, s_ic_ge, s_ic_gt, s_ic_le, s_ic_ne, s_ifnn_r, s_ifnn_n, s_goto, s_nop, s_tab, s_getfield, s_putfield, s_anewarray, s_newarray, s_iaload, s_baload, s_caload, s_laload, s_daload, s_aaload, s_iastore, s_bastore, s_castore, s_lastore, s_dastore, s_aastore, s_arraylength, s_lreturn, s_freturn, s_dreturn, s_areturn, s_return, s_new, s_thr, ld_Z, ld_S, kl_Z, pd_0, pd_c, pd_n, ag_i, ag_r, ag_l, ag_n, st_Z, st_On, st_Oi, st_Or, st_Ol, st_S, s2_eq, mk_t, mk_f, mk_n, cl_v, cl_n, cl_if, vl_0, vl_1, vl_2, cv_i, cv_l, cv_d, cv_f, rf_s, qW_n, qW_i, qW_l, qW_r, qMem, x_get, x_putI, x_putL, x_ldL, x_ldI, x_ldA, x_stL, x_stI, x_isO, MK_1, MK_21, List.set_cons_zero, List.set_cons_succ, List.getElem?_cons_zero, List.getElem?_cons_succ, Option.map_some, List.tail_cons, i64_32, Nat.zero_add, Nat.reduceAdd, Nat.reduceLeDiff, Nat.le_refl, if_true, if_false, ite_true, ite_false, reduceIte, lnO, rfO, fn_0, f_0_0, f_0_1, f_0_2, f_0_3, f_0_4, f_0_5, f_0_6, f_0_7, f_0_8, f_0_9, f_0_10, f_0_11, f_0_12, f_0_13, f_0_14, fn_1, f_1_0, f_1_1, f_1_2, f_1_3, f_1_4, fn_2, f_2_0, f_2_1, f_2_2, f_2_3, f_2_4, f_2_5, fn_3, f_3_0, f_3_1, f_3_2, f_3_3, fn_4, f_4_0, f_4_1, f_4_2, f_4_3, f_4_4, f_4_5, fn_5, f_5_0, f_5_1, f_5_2, fn_6, f_6_0, f_6_1, f_6_2, fn_7, f_7_0, f_7_1, f_7_2, f_7_3, f_7_4, fn_8, f_8_0, f_8_1, f_8_2, f_8_3, f_8_4, f_8_5, f_8_6, f_8_7, fn_9, f_9_0, f_9_1, f_9_2, f_9_3, f_9_4, f_9_5, fn_10, f_10_0, f_10_1, f_10_2, f_10_3, f_10_4, f_10_5, f_10_6, f_10_7, f_10_8, f_10_9, f_10_10, f_10_11, f_10_12, f_10_13, f_10_14, f_10_15, f_10_16, f_10_17, f_10_18, f_10_19, f_10_20, f_10_21, f_10_22, f_10_23, Nat.reduceLT, cv_t, x_ld3, x_ld2, x_st3, x_st2, rm_g2, rm_g3, rm_g4, rm_g5, rm_g6, rm_g7, rm_s2, rm_s3, rm_s4, rm_s5, rm_s6, rm_s7, rm_t, h0, pq_g9, pq_g10, a1]
theorem nI_inj {a b : Nat} (ha : a < 2 ^ 31) (hb : b < 2 ^ 31) : (nI a = nI b) = (a = b) := by
  apply propext
  constructor
  · intro q
    have := congrArg Int32.toNatClampNeg q
    rwa [nI_clamp ha, nI_clamp hb] at this
  · rintro rfl
    rfl
theorem hr_sp (hp : P.1 < L) : (hrT T L P.1 = 32) = (isSp T P.1 = true) := by
  unfold hrT isSp
  rw [if_pos hp, decide_eq_true_eq]
theorem hr_end : hrT T L L = -1 := by unfold hrT; rw [if_neg (by omega)]
theorem t163_l (hM : ML y M) (hA : MA y M) (hT : HB (μ (M + 7)) T L) (hL : L ≤ 900) {K : Int32 × Int32 × Int32} : ∀ k p, p + k = L → qR PG G (163, K163_0, [some (.ref M)], [], MK y (PQ μ M L bg st (p, K) E) n s) = some (.inl (some (.int (hrT T L (adv (isSp T) k p)))), MK y (PQ μ M L (adv (isSp T) k p) st (adv (isSp T) k p, K) E) n s) := by
  intro k
  have done : ∀ p, p ≤ L → ¬ hrT T L p = 32 → qR PG G (163, K163_0, [some (.ref M)], [], MK y (PQ μ M L bg st (p, K) E) n s) = some (.inl (some (.int (hrT T L p))), MK y (PQ μ M L p st (p, K) E) n s) := by
    intro p hp hne
    have g := t164 (G := G) (P := (p, K)) (E := E) (bg := bg) (st := st) (n := n) (s := s) hM hA hT hL hp
    have g2 := t164 (G := G) (P := (p, K)) (E := E) (bg := p) (st := st) (n := n) (s := s) hM hA hT hL hp
    have s11 : stc (PQ μ M L bg st (p, K) E) M (sv (PQ μ M L bg st (p, K) E M) 11 (nI p).toInt64) = PQ μ M L p st (p, K) E := pq_s11
    obtain ⟨h0, h1⟩ := hM
    conv => lhs; unfold K163_0
    simp -implicitDefEqProofs only [K163_1, j163_1, r163, s_iadd, s_isub, s_imul, s_ineg, s_iand, s_ior, s_ixor, s_ishl, s_ishr, s_iushr, s_i2l, s_l2i, s_i2b, s_i2c, s_ladd, s_lsub, s_lmul, s_lneg, s_land, s_lor, s_lshl, s_lshr, s_lushr, s_lcmp, s_l2d, s_l2f, s_i2d, s_i2f, s_idiv, s_ldiv, s_irem, s_lrem, s_dcmp, s_fcmp, s_ddiv, s_fdiv, s_f2d, s_dup_i, s_dup_r, s_dup2_l, s_dup2_ir, s_pop, s_iconst, s_bipush, s_sipush, s_lconst, s_fconst, s_dconst, s_ldc, s_ldc_w, s_ldc2_w, s_iload, s_iload_n0, s_iload_n1, s_iload_n2, s_iload_n3, s_lload, s_lload_n0, s_lload_n1, s_lload_n2, s_lload_n3, s_fload, s_fload_n0, s_fload_n1, s_fload_n2, s_fload_n3, s_dload, s_dload_n0, s_dload_n1, s_dload_n2, s_dload_n3, s_aload, s_aload_n0, s_aload_n1, s_aload_n2, s_aload_n3, s_istore, s_istore_n0, s_istore_n1, s_istore_n2, s_istore_n3, s_lstore, s_lstore_n0, s_lstore_n1, s_lstore_n2, s_lstore_n3, s_fstore, s_fstore_n0, s_fstore_n1, s_fstore_n2, s_fstore_n3, s_dstore, s_dstore_n0, s_dstore_n1, s_dstore_n2, s_dstore_n3, s_astore, s_astore_n0, s_astore_n1, s_astore_n2, s_astore_n3, s_astoreN_n, s_iinc, s_if_eq, s_if_lt, s_if_ge, s_if_gt, s_if_le, s_if_ne, s_ic_eq, s_ic_lt, s_ic_ge, s_ic_gt, s_ic_le, s_ic_ne, s_ifnn_r, s_ifnn_n, s_goto, s_nop, s_tab, s_getfield, s_putfield, s_anewarray, s_newarray, s_iaload, s_baload, s_caload, s_laload, s_daload, s_aaload, s_iastore, s_bastore, s_castore, s_lastore, s_dastore, s_aastore, s_arraylength, s_lreturn, s_freturn, s_dreturn, s_areturn, s_return, s_new, s_thr, ld_Z, ld_S, kl_Z, pd_0, pd_c, pd_n, ag_i, ag_r, ag_l, ag_n, st_Z, st_On, st_Oi, st_Or, st_Ol, st_S, s2_eq, mk_t, mk_f, mk_n, cl_v, cl_n, cl_if, vl_0, vl_1, vl_2, cv_i, cv_l, cv_d, cv_f, rf_s, qW_n, qW_i, qW_l, qW_r, qMem, x_get, x_putI, x_putL, x_ldL, x_ldI, x_ldA, x_stL, x_stI, x_isO, MK_1, MK_21, List.set_cons_zero, List.set_cons_succ, List.getElem?_cons_zero, List.getElem?_cons_succ, Option.map_some, List.tail_cons, i64_32, Nat.zero_add, Nat.reduceAdd, Nat.reduceLeDiff, Nat.le_refl, if_true, if_false, ite_true, ite_false, reduceIte, lnO, rfO, fn_0, f_0_0, f_0_1, f_0_2, f_0_3, f_0_4, f_0_5, f_0_6, f_0_7, f_0_8, f_0_9, f_0_10, f_0_11, f_0_12, f_0_13, f_0_14, fn_1, f_1_0, f_1_1, f_1_2, f_1_3, f_1_4, fn_2, f_2_0, f_2_1, f_2_2, f_2_3, f_2_4, f_2_5, fn_3, f_3_0, f_3_1, f_3_2, f_3_3, fn_4, f_4_0, f_4_1, f_4_2, f_4_3, f_4_4, f_4_5, fn_5, f_5_0, f_5_1, f_5_2, fn_6, f_6_0, f_6_1, f_6_2, fn_7, f_7_0, f_7_1, f_7_2, f_7_3, f_7_4, fn_8, f_8_0, f_8_1, f_8_2, f_8_3, f_8_4, f_8_5, f_8_6, f_8_7, fn_9, f_9_0, f_9_1, f_9_2, f_9_3, f_9_4, f_9_5, fn_10, f_10_0, f_10_1, f_10_2, f_10_3, f_10_4, f_10_5, f_10_6, f_10_7, f_10_8, f_10_9, f_10_10, f_10_11, f_10_12, f_10_13, f_10_14, f_10_15, f_10_16, f_10_17, f_10_18, f_10_19, f_10_20, f_10_21, f_10_22, f_10_23, Nat.reduceLT, cv_t, x_ld3, x_ld2, x_st3, x_st2, rm_g2, rm_g3, rm_g4, rm_g5, rm_g6, rm_g7, rm_s2, rm_s3, rm_s4, rm_s5, rm_s6, rm_s7, rm_t, c164, g, g2, h0, pq_g10, s11, if_neg hne]
  induction k with
  | zero =>
    intro p hp
    rw [adv]
    have e : p = L := by omega
    subst e
    exact done p (Nat.le_refl _) (by rw [hr_end]; decide)
  | succ k ih =>
    intro p hp
    rw [adv]
    by_cases hq : isSp T p = true
    · rw [if_pos hq, ← ih (p + 1) (by omega)]
      have g := t164 (G := G) (P := (p, K)) (E := E) (bg := bg) (st := st) (n := n) (s := s) hM hA hT hL (by show p ≤ L; omega)
      have e32 : hrT T L p = 32 := (hr_sp (P := (p, K)) (by show p < L; omega)).mpr hq
      have s10 : stc (PQ μ M L bg st (p, K) E) M (sv (PQ μ M L bg st (p, K) E M) 10 (nI (p + 1)).toInt64) = PQ μ M L bg st (p + 1, K) E := pq_s10
      obtain ⟨h0, h1⟩ := hM
      conv => lhs; unfold K163_0
      simp -implicitDefEqProofs only [j163_0, j163_1, s_iadd, s_isub, s_imul, s_ineg, s_iand, s_ior, s_ixor, s_ishl, s_ishr, s_iushr, s_i2l, s_l2i, s_i2b, s_i2c, s_ladd, s_lsub, s_lmul, s_lneg, s_land, s_lor, s_lshl, s_lshr, s_lushr, s_lcmp, s_l2d, s_l2f, s_i2d, s_i2f, s_idiv, s_ldiv, s_irem, s_lrem, s_dcmp, s_fcmp, s_ddiv, s_fdiv, s_f2d, s_dup_i, s_dup_r, s_dup2_l, s_dup2_ir, s_pop, s_iconst, s_bipush, s_sipush, s_lconst, s_fconst, s_dconst, s_ldc, s_ldc_w, s_ldc2_w, s_iload, s_iload_n0, s_iload_n1, s_iload_n2, s_iload_n3, s_lload, s_lload_n0, s_lload_n1, s_lload_n2, s_lload_n3, s_fload, s_fload_n0, s_fload_n1, s_fload_n2, s_fload_n3, s_dload, s_dload_n0, s_dload_n1, s_dload_n2, s_dload_n3, s_aload, s_aload_n0, s_aload_n1, s_aload_n2, s_aload_n3, s_istore, s_istore_n0, s_istore_n1, s_istore_n2, s_istore_n3, s_lstore, s_lstore_n0, s_lstore_n1, s_lstore_n2, s_lstore_n3, s_fstore, s_fstore_n0, s_fstore_n1, s_fstore_n2, s_fstore_n3, s_dstore, s_dstore_n0, s_dstore_n1, s_dstore_n2, s_dstore_n3, s_astore, s_astore_n0, s_astore_n1, s_astore_n2, s_astore_n3, s_astoreN_n, s_iinc, s_if_eq, s_if_lt, s_if_ge, s_if_gt, s_if_le, s_if_ne, s_ic_eq, s_ic_lt, s_ic_ge, s_ic_gt, s_ic_le, s_ic_ne, s_ifnn_r, s_ifnn_n, s_goto, s_nop, s_tab, s_getfield, s_putfield, s_anewarray, s_newarray, s_iaload, s_baload, s_caload, s_laload, s_daload, s_aaload, s_iastore, s_bastore, s_castore, s_lastore, s_dastore, s_aastore, s_arraylength, s_lreturn, s_freturn, s_dreturn, s_areturn, s_return, s_new, s_thr, ld_Z, ld_S, kl_Z, pd_0, pd_c, pd_n, ag_i, ag_r, ag_l, ag_n, st_Z, st_On, st_Oi, st_Or, st_Ol, st_S, s2_eq, mk_t, mk_f, mk_n, cl_v, cl_n, cl_if, vl_0, vl_1, vl_2, cv_i, cv_l, cv_d, cv_f, rf_s, qW_n, qW_i, qW_l, qW_r, qMem, x_get, x_putI, x_putL, x_ldL, x_ldI, x_ldA, x_stL, x_stI, x_isO, MK_1, MK_21, List.set_cons_zero, List.set_cons_succ, List.getElem?_cons_zero, List.getElem?_cons_succ, Option.map_some, List.tail_cons, i64_32, Nat.zero_add, Nat.reduceAdd, Nat.reduceLeDiff, Nat.le_refl, if_true, if_false, ite_true, ite_false, reduceIte, lnO, rfO, fn_0, f_0_0, f_0_1, f_0_2, f_0_3, f_0_4, f_0_5, f_0_6, f_0_7, f_0_8, f_0_9, f_0_10, f_0_11, f_0_12, f_0_13, f_0_14, fn_1, f_1_0, f_1_1, f_1_2, f_1_3, f_1_4, fn_2, f_2_0, f_2_1, f_2_2, f_2_3, f_2_4, f_2_5, fn_3, f_3_0, f_3_1, f_3_2, f_3_3, fn_4, f_4_0, f_4_1, f_4_2, f_4_3, f_4_4, f_4_5, fn_5, f_5_0, f_5_1, f_5_2, fn_6, f_6_0, f_6_1, f_6_2, fn_7, f_7_0, f_7_1, f_7_2, f_7_3, f_7_4, fn_8, f_8_0, f_8_1, f_8_2, f_8_3, f_8_4, f_8_5, f_8_6, f_8_7, fn_9, f_9_0, f_9_1, f_9_2, f_9_3, f_9_4, f_9_5, fn_10, f_10_0, f_10_1, f_10_2, f_10_3, f_10_4, f_10_5, f_10_6, f_10_7, f_10_8, f_10_9, f_10_10, f_10_11, f_10_12, f_10_13, f_10_14, f_10_15, f_10_16, f_10_17, f_10_18, f_10_19, f_10_20, f_10_21, f_10_22, f_10_23, Nat.reduceLT, cv_t, x_ld3, x_ld2, x_st3, x_st2, rm_g2, rm_g3, rm_g4, rm_g5, rm_g6, rm_g7, rm_s2, rm_s3, rm_s4, rm_s5, rm_s6, rm_s7, rm_t, c164, g, h0, e32, pq_g10, s10, nia1]
    · rw [if_neg hq]
      exact done p (by omega) (by rw [hr_sp (P := (p, K)) (by show p < L; omega)]; exact hq)
theorem t163 (hM : ML y M) (hA : MA y M) (hT : HB (μ (M + 7)) T L) (hL : L ≤ 900) (hp : P.1 ≤ L) : qR PG G (qEntry PG 163 [.ref M] (MK y (PQ μ M L bg st P E) n s)) = some (.inl (some (.int (hrT T L (skP T L P).1))), MK y (PQ μ M L (skP T L P).1 st (skP T L P) E) n s) := by
  have g := t163_l (G := G) (E := E) (st := st) (n := n) (s := s) hM hA hT hL (K := P.2) (bg := bg) (L - P.1) P.1 (by omega)
  have e : qR PG G (qEntry PG 163 [.ref M] (MK y (PQ μ M L bg st P E) n s)) = qR PG G (163, K163_0, [some (.ref M)], [], MK y (PQ μ M L bg st (P.1, P.2) E) n s) := by
    show qR PG G (qEntry PG 163 [.ref M] (MK y (PQ μ M L bg st P E) n s)) = qR PG G (163, K163_0, [some (.ref M)], [], MK y (PQ μ M L bg st P E) n s)
    simp -implicitDefEqProofs only [e163, s_iadd, s_isub, s_imul, s_ineg, s_iand, s_ior, s_ixor, s_ishl, s_ishr, s_iushr, s_i2l, s_l2i, s_i2b, s_i2c, s_ladd, s_lsub, s_lmul, s_lneg, s_land, s_lor, s_lshl, s_lshr, s_lushr, s_lcmp, s_l2d, s_l2f, s_i2d, s_i2f, s_idiv, s_ldiv, s_irem, s_lrem, s_dcmp, s_fcmp, s_ddiv, s_fdiv, s_f2d, s_dup_i, s_dup_r, s_dup2_l, s_dup2_ir, s_pop, s_iconst, s_bipush, s_sipush, s_lconst, s_fconst, s_dconst, s_ldc, s_ldc_w, s_ldc2_w, s_iload, s_iload_n0, s_iload_n1, s_iload_n2, s_iload_n3, s_lload, s_lload_n0, s_lload_n1, s_lload_n2, s_lload_n3, s_fload, s_fload_n0, s_fload_n1, s_fload_n2, s_fload_n3, s_dload, s_dload_n0, s_dload_n1, s_dload_n2, s_dload_n3, s_aload, s_aload_n0, s_aload_n1, s_aload_n2, s_aload_n3, s_istore, s_istore_n0, s_istore_n1, s_istore_n2, s_istore_n3, s_lstore, s_lstore_n0, s_lstore_n1, s_lstore_n2, s_lstore_n3, s_fstore, s_fstore_n0, s_fstore_n1, s_fstore_n2, s_fstore_n3, s_dstore, s_dstore_n0, s_dstore_n1, s_dstore_n2, s_dstore_n3, s_astore, s_astore_n0, s_astore_n1, s_astore_n2, s_astore_n3, s_astoreN_n, s_iinc, s_if_eq, s_if_lt, s_if_ge, s_if_gt, s_if_le, s_if_ne, s_ic_eq, s_ic_lt, s_ic_ge, s_ic_gt, s_ic_le, s_ic_ne, s_ifnn_r, s_ifnn_n, s_goto, s_nop, s_tab, s_getfield, s_putfield, s_anewarray, s_newarray, s_iaload, s_baload, s_caload, s_laload, s_daload, s_aaload, s_iastore, s_bastore, s_castore, s_lastore, s_dastore, s_aastore, s_arraylength, s_lreturn, s_freturn, s_dreturn, s_areturn, s_return, s_new, s_thr, ld_Z, ld_S, kl_Z, pd_0, pd_c, pd_n, ag_i, ag_r, ag_l, ag_n, st_Z, st_On, st_Oi, st_Or, st_Ol, st_S, s2_eq, mk_t, mk_f, mk_n, cl_v, cl_n, cl_if, vl_0, vl_1, vl_2, cv_i, cv_l, cv_d, cv_f, rf_s, qW_n, qW_i, qW_l, qW_r, qMem, x_get, x_putI, x_putL, x_ldL, x_ldI, x_ldA, x_stL, x_stI, x_isO, MK_1, MK_21, List.set_cons_zero, List.set_cons_succ, List.getElem?_cons_zero, List.getElem?_cons_succ, Option.map_some, List.tail_cons, i64_32, Nat.zero_add, Nat.reduceAdd, Nat.reduceLeDiff, Nat.le_refl, if_true, if_false, ite_true, ite_false, reduceIte, lnO, rfO, fn_0, f_0_0, f_0_1, f_0_2, f_0_3, f_0_4, f_0_5, f_0_6, f_0_7, f_0_8, f_0_9, f_0_10, f_0_11, f_0_12, f_0_13, f_0_14, fn_1, f_1_0, f_1_1, f_1_2, f_1_3, f_1_4, fn_2, f_2_0, f_2_1, f_2_2, f_2_3, f_2_4, f_2_5, fn_3, f_3_0, f_3_1, f_3_2, f_3_3, fn_4, f_4_0, f_4_1, f_4_2, f_4_3, f_4_4, f_4_5, fn_5, f_5_0, f_5_1, f_5_2, fn_6, f_6_0, f_6_1, f_6_2, fn_7, f_7_0, f_7_1, f_7_2, f_7_3, f_7_4, fn_8, f_8_0, f_8_1, f_8_2, f_8_3, f_8_4, f_8_5, f_8_6, f_8_7, fn_9, f_9_0, f_9_1, f_9_2, f_9_3, f_9_4, f_9_5, fn_10, f_10_0, f_10_1, f_10_2, f_10_3, f_10_4, f_10_5, f_10_6, f_10_7, f_10_8, f_10_9, f_10_10, f_10_11, f_10_12, f_10_13, f_10_14, f_10_15, f_10_16, f_10_17, f_10_18, f_10_19, f_10_20, f_10_21, f_10_22, f_10_23, Nat.reduceLT, cv_t, x_ld3, x_ld2, x_st3, x_st2, rm_g2, rm_g3, rm_g4, rm_g5, rm_g6, rm_g7, rm_s2, rm_s3, rm_s4, rm_s5, rm_s6, rm_s7, rm_t]
  rw [e, g]
  rfl
theorem hr_lt {p : Nat} (hT : HB (μ (M + 7)) T L) (hp : p < L) : (97 ≤ hrT T L p ∧ hrT T L p ≤ 122) = (isLt T p = true) := by
  unfold hrT isLt
  rw [if_pos hp, decide_eq_true_eq]
theorem hr_dg {p : Nat} (hp : p < L) : (48 ≤ hrT T L p ∧ hrT T L p ≤ 57) = (isDg T p = true) := by
  unfold hrT isDg
  rw [if_pos hp, decide_eq_true_eq]
theorem q165l {x : Int32} {h : qHp} : qR PG G (qEntry PG 165 [.long x.toInt64, .long 97, .long 122] h) = some (.inl (some (.int (if 97 ≤ x ∧ x ≤ 122 then 1 else 0))), h) := t165i (lo := 97) (hi := 122)
theorem q165d {x : Int32} {h : qHp} : qR PG G (qEntry PG 165 [.long x.toInt64, .long 48, .long 57] h) = some (.inl (some (.int (if 48 ≤ x ∧ x ≤ 57 then 1 else 0))), h) := t165i (lo := 48) (hi := 57)
theorem t162_l (hM : ML y M) (hA : MA y M) (hT : HB (μ (M + 7)) T L) (hL : L ≤ 900) {K : Int32 × Int32 × Int32} : ∀ k p, p + k = L → qR PG G (162, K162_1, [some (.ref M)], [], MK y (PQ μ M L bg st (p, K) E) n s) = some (.inl none, MK y (PQ μ M L bg st (adv (isLt T) k p, K) E) n s) := by
  intro k
  have done : ∀ p, p ≤ L → ¬ (97 ≤ hrT T L p ∧ hrT T L p ≤ 122) → qR PG G (162, K162_1, [some (.ref M)], [], MK y (PQ μ M L bg st (p, K) E) n s) = some (.inl none, MK y (PQ μ M L bg st (p, K) E) n s) := by
    intro p hp hne
    have g := t164 (G := G) (P := (p, K)) (E := E) (bg := bg) (st := st) (n := n) (s := s) hM hA hT hL hp
    have q := q165l (G := G) (x := hrT T L p) (h := MK y (PQ μ M L bg st (p, K) E) n s)
    rw [if_neg hne] at q
    obtain ⟨h0, h1⟩ := hM
    conv => lhs; unfold K162_1
    simp -implicitDefEqProofs only [K162_2, j162_2, s_iadd, s_isub, s_imul, s_ineg, s_iand, s_ior, s_ixor, s_ishl, s_ishr, s_iushr, s_i2l, s_l2i, s_i2b, s_i2c, s_ladd, s_lsub, s_lmul, s_lneg, s_land, s_lor, s_lshl, s_lshr, s_lushr, s_lcmp, s_l2d, s_l2f, s_i2d, s_i2f, s_idiv, s_ldiv, s_irem, s_lrem, s_dcmp, s_fcmp, s_ddiv, s_fdiv, s_f2d, s_dup_i, s_dup_r, s_dup2_l, s_dup2_ir, s_pop, s_iconst, s_bipush, s_sipush, s_lconst, s_fconst, s_dconst, s_ldc, s_ldc_w, s_ldc2_w, s_iload, s_iload_n0, s_iload_n1, s_iload_n2, s_iload_n3, s_lload, s_lload_n0, s_lload_n1, s_lload_n2, s_lload_n3, s_fload, s_fload_n0, s_fload_n1, s_fload_n2, s_fload_n3, s_dload, s_dload_n0, s_dload_n1, s_dload_n2, s_dload_n3, s_aload, s_aload_n0, s_aload_n1, s_aload_n2, s_aload_n3, s_istore, s_istore_n0, s_istore_n1, s_istore_n2, s_istore_n3, s_lstore, s_lstore_n0, s_lstore_n1, s_lstore_n2, s_lstore_n3, s_fstore, s_fstore_n0, s_fstore_n1, s_fstore_n2, s_fstore_n3, s_dstore, s_dstore_n0, s_dstore_n1, s_dstore_n2, s_dstore_n3, s_astore, s_astore_n0, s_astore_n1, s_astore_n2, s_astore_n3, s_astoreN_n, s_iinc, s_if_eq, s_if_lt, s_if_ge, s_if_gt, s_if_le, s_if_ne, s_ic_eq, s_ic_lt, s_ic_ge, s_ic_gt, s_ic_le, s_ic_ne, s_ifnn_r, s_ifnn_n, s_goto, s_nop, s_tab, s_getfield, s_putfield, s_anewarray, s_newarray, s_iaload, s_baload, s_caload, s_laload, s_daload, s_aaload, s_iastore, s_bastore, s_castore, s_lastore, s_dastore, s_aastore, s_arraylength, s_lreturn, s_freturn, s_dreturn, s_areturn, s_return, s_new, s_thr, ld_Z, ld_S, kl_Z, pd_0, pd_c, pd_n, ag_i, ag_r, ag_l, ag_n, st_Z, st_On, st_Oi, st_Or, st_Ol, st_S, s2_eq, mk_t, mk_f, mk_n, cl_v, cl_n, cl_if, vl_0, vl_1, vl_2, cv_i, cv_l, cv_d, cv_f, rf_s, qW_n, qW_i, qW_l, qW_r, qMem, x_get, x_putI, x_putL, x_ldL, x_ldI, x_ldA, x_stL, x_stI, x_isO, MK_1, MK_21, List.set_cons_zero, List.set_cons_succ, List.getElem?_cons_zero, List.getElem?_cons_succ, Option.map_some, List.tail_cons, i64_32, Nat.zero_add, Nat.reduceAdd, Nat.reduceLeDiff, Nat.le_refl, if_true, if_false, ite_true, ite_false, reduceIte, lnO, rfO, fn_0, f_0_0, f_0_1, f_0_2, f_0_3, f_0_4, f_0_5, f_0_6, f_0_7, f_0_8, f_0_9, f_0_10, f_0_11, f_0_12, f_0_13, f_0_14, fn_1, f_1_0, f_1_1, f_1_2, f_1_3, f_1_4, fn_2, f_2_0, f_2_1, f_2_2, f_2_3, f_2_4, f_2_5, fn_3, f_3_0, f_3_1, f_3_2, f_3_3, fn_4, f_4_0, f_4_1, f_4_2, f_4_3, f_4_4, f_4_5, fn_5, f_5_0, f_5_1, f_5_2, fn_6, f_6_0, f_6_1, f_6_2, fn_7, f_7_0, f_7_1, f_7_2, f_7_3, f_7_4, fn_8, f_8_0, f_8_1, f_8_2, f_8_3, f_8_4, f_8_5, f_8_6, f_8_7, fn_9, f_9_0, f_9_1, f_9_2, f_9_3, f_9_4, f_9_5, fn_10, f_10_0, f_10_1, f_10_2, f_10_3, f_10_4, f_10_5, f_10_6, f_10_7, f_10_8, f_10_9, f_10_10, f_10_11, f_10_12, f_10_13, f_10_14, f_10_15, f_10_16, f_10_17, f_10_18, f_10_19, f_10_20, f_10_21, f_10_22, f_10_23, Nat.reduceLT, cv_t, x_ld3, x_ld2, x_st3, x_st2, rm_g2, rm_g3, rm_g4, rm_g5, rm_g6, rm_g7, rm_s2, rm_s3, rm_s4, rm_s5, rm_s6, rm_s7, rm_t, c164, c165, g, q, h0]
  induction k with
  | zero =>
    intro p hp
    rw [adv]
    have e : p = L := by omega
    subst e
    exact done p (Nat.le_refl _) (by rw [hr_end]; decide)
  | succ k ih =>
    intro p hp
    rw [adv]
    by_cases hq : isLt T p = true
    · rw [if_pos hq, ← ih (p + 1) (by omega)]
      have g := t164 (G := G) (P := (p, K)) (E := E) (bg := bg) (st := st) (n := n) (s := s) hM hA hT hL (by show p ≤ L; omega)
      have q := q165l (G := G) (x := hrT T L p) (h := MK y (PQ μ M L bg st (p, K) E) n s)
      rw [if_pos ((hr_lt hT (by omega)).mpr hq)] at q
      have s10 : stc (PQ μ M L bg st (p, K) E) M (sv (PQ μ M L bg st (p, K) E M) 10 (nI (p + 1)).toInt64) = PQ μ M L bg st (p + 1, K) E := pq_s10
      have n1 : ((1 : Int32) = 0) = False := by decide
      obtain ⟨h0, h1⟩ := hM
      conv => lhs; unfold K162_1
      simp -implicitDefEqProofs only [j162_1, j162_2, s_iadd, s_isub, s_imul, s_ineg, s_iand, s_ior, s_ixor, s_ishl, s_ishr, s_iushr, s_i2l, s_l2i, s_i2b, s_i2c, s_ladd, s_lsub, s_lmul, s_lneg, s_land, s_lor, s_lshl, s_lshr, s_lushr, s_lcmp, s_l2d, s_l2f, s_i2d, s_i2f, s_idiv, s_ldiv, s_irem, s_lrem, s_dcmp, s_fcmp, s_ddiv, s_fdiv, s_f2d, s_dup_i, s_dup_r, s_dup2_l, s_dup2_ir, s_pop, s_iconst, s_bipush, s_sipush, s_lconst, s_fconst, s_dconst, s_ldc, s_ldc_w, s_ldc2_w, s_iload, s_iload_n0, s_iload_n1, s_iload_n2, s_iload_n3, s_lload, s_lload_n0, s_lload_n1, s_lload_n2, s_lload_n3, s_fload, s_fload_n0, s_fload_n1, s_fload_n2, s_fload_n3, s_dload, s_dload_n0, s_dload_n1, s_dload_n2, s_dload_n3, s_aload, s_aload_n0, s_aload_n1, s_aload_n2, s_aload_n3, s_istore, s_istore_n0, s_istore_n1, s_istore_n2, s_istore_n3, s_lstore, s_lstore_n0, s_lstore_n1, s_lstore_n2, s_lstore_n3, s_fstore, s_fstore_n0, s_fstore_n1, s_fstore_n2, s_fstore_n3, s_dstore, s_dstore_n0, s_dstore_n1, s_dstore_n2, s_dstore_n3, s_astore, s_astore_n0, s_astore_n1, s_astore_n2, s_astore_n3, s_astoreN_n, s_iinc, s_if_eq, s_if_lt, s_if_ge, s_if_gt, s_if_le, s_if_ne, s_ic_eq, s_ic_lt, s_ic_ge, s_ic_gt, s_ic_le, s_ic_ne, s_ifnn_r, s_ifnn_n, s_goto, s_nop, s_tab, s_getfield, s_putfield, s_anewarray, s_newarray, s_iaload, s_baload, s_caload, s_laload, s_daload, s_aaload, s_iastore, s_bastore, s_castore, s_lastore, s_dastore, s_aastore, s_arraylength, s_lreturn, s_freturn, s_dreturn, s_areturn, s_return, s_new, s_thr, ld_Z, ld_S, kl_Z, pd_0, pd_c, pd_n, ag_i, ag_r, ag_l, ag_n, st_Z, st_On, st_Oi, st_Or, st_Ol, st_S, s2_eq, mk_t, mk_f, mk_n, cl_v, cl_n, cl_if, vl_0, vl_1, vl_2, cv_i, cv_l, cv_d, cv_f, rf_s, qW_n, qW_i, qW_l, qW_r, qMem, x_get, x_putI, x_putL, x_ldL, x_ldI, x_ldA, x_stL, x_stI, x_isO, MK_1, MK_21, List.set_cons_zero, List.set_cons_succ, List.getElem?_cons_zero, List.getElem?_cons_succ, Option.map_some, List.tail_cons, i64_32, Nat.zero_add, Nat.reduceAdd, Nat.reduceLeDiff, Nat.le_refl, if_true, if_false, ite_true, ite_false, reduceIte, lnO, rfO, fn_0, f_0_0, f_0_1, f_0_2, f_0_3, f_0_4, f_0_5, f_0_6, f_0_7, f_0_8, f_0_9, f_0_10, f_0_11, f_0_12, f_0_13, f_0_14, fn_1, f_1_0, f_1_1, f_1_2, f_1_3, f_1_4, fn_2, f_2_0, f_2_1, f_2_2, f_2_3, f_2_4, f_2_5, fn_3, f_3_0, f_3_1, f_3_2, f_3_3, fn_4, f_4_0, f_4_1, f_4_2, f_4_3, f_4_4, f_4_5, fn_5, f_5_0, f_5_1, f_5_2, fn_6, f_6_0, f_6_1, f_6_2, fn_7, f_7_0, f_7_1, f_7_2, f_7_3, f_7_4, fn_8, f_8_0, f_8_1, f_8_2, f_8_3, f_8_4, f_8_5, f_8_6, f_8_7, fn_9, f_9_0, f_9_1, f_9_2, f_9_3, f_9_4, f_9_5, fn_10, f_10_0, f_10_1, f_10_2, f_10_3, f_10_4, f_10_5, f_10_6, f_10_7, f_10_8, f_10_9, f_10_10, f_10_11, f_10_12, f_10_13, f_10_14, f_10_15, f_10_16, f_10_17, f_10_18, f_10_19, f_10_20, f_10_21, f_10_22, f_10_23, Nat.reduceLT, cv_t, x_ld3, x_ld2, x_st3, x_st2, rm_g2, rm_g3, rm_g4, rm_g5, rm_g6, rm_g7, rm_s2, rm_s3, rm_s4, rm_s5, rm_s6, rm_s7, rm_t, c164, c165, g, q, h0, n1, pq_g10, s10, nia1]
    · rw [if_neg hq]
      exact done p (by omega) (by rw [hr_lt hT (by omega)]; exact hq)
theorem t162 (hM : ML y M) (hA : MA y M) (hT : HB (μ (M + 7)) T L) (hL : L ≤ 900) (hp : P.1 ≤ L) : qR PG G (qEntry PG 162 [.ref M] (MK y (PQ μ M L bg st P E) n s)) = some (.inl none, MK y (PQ μ M L (skP T L P).1 st (wdP T L (skP T L P)) E) n s) := by
  have g := t163 (G := G) (bg := bg) (st := st) (E := E) (n := n) (s := s) hM hA hT hL hp
  have hs := (skP_le (T := T) hp).1
  have g2 := t162_l (G := G) (E := E) (st := st) (n := n) (s := s) hM hA hT hL (K := (skP T L P).2) (bg := (skP T L P).1) (L - (skP T L P).1) (skP T L P).1 (by omega)
  have e : qR PG G (qEntry PG 162 [.ref M] (MK y (PQ μ M L bg st P E) n s)) = qR PG G (162, K162_1, [some (.ref M)], [], MK y (PQ μ M L (skP T L P).1 st (skP T L P) E) n s) := by
    obtain ⟨h0, h1⟩ := hM
    simp -implicitDefEqProofs only [e162, K162_0, j162_1, s_iadd, s_isub, s_imul, s_ineg, s_iand, s_ior, s_ixor, s_ishl, s_ishr, s_iushr, s_i2l, s_l2i, s_i2b, s_i2c, s_ladd, s_lsub, s_lmul, s_lneg, s_land, s_lor, s_lshl, s_lshr, s_lushr, s_lcmp, s_l2d, s_l2f, s_i2d, s_i2f, s_idiv, s_ldiv, s_irem, s_lrem, s_dcmp, s_fcmp, s_ddiv, s_fdiv, s_f2d, s_dup_i, s_dup_r, s_dup2_l, s_dup2_ir, s_pop, s_iconst, s_bipush, s_sipush, s_lconst, s_fconst, s_dconst, s_ldc, s_ldc_w, s_ldc2_w, s_iload, s_iload_n0, s_iload_n1, s_iload_n2, s_iload_n3, s_lload, s_lload_n0, s_lload_n1, s_lload_n2, s_lload_n3, s_fload, s_fload_n0, s_fload_n1, s_fload_n2, s_fload_n3, s_dload, s_dload_n0, s_dload_n1, s_dload_n2, s_dload_n3, s_aload, s_aload_n0, s_aload_n1, s_aload_n2, s_aload_n3, s_istore, s_istore_n0, s_istore_n1, s_istore_n2, s_istore_n3, s_lstore, s_lstore_n0, s_lstore_n1, s_lstore_n2, s_lstore_n3, s_fstore, s_fstore_n0, s_fstore_n1, s_fstore_n2, s_fstore_n3, s_dstore, s_dstore_n0, s_dstore_n1, s_dstore_n2, s_dstore_n3, s_astore, s_astore_n0, s_astore_n1, s_astore_n2, s_astore_n3, s_astoreN_n, s_iinc, s_if_eq, s_if_lt, s_if_ge, s_if_gt, s_if_le, s_if_ne, s_ic_eq, s_ic_lt, s_ic_ge, s_ic_gt, s_ic_le, s_ic_ne, s_ifnn_r, s_ifnn_n, s_goto, s_nop, s_tab, s_getfield, s_putfield, s_anewarray, s_newarray, s_iaload, s_baload, s_caload, s_laload, s_daload, s_aaload, s_iastore, s_bastore, s_castore, s_lastore, s_dastore, s_aastore, s_arraylength, s_lreturn, s_freturn, s_dreturn, s_areturn, s_return, s_new, s_thr, ld_Z, ld_S, kl_Z, pd_0, pd_c, pd_n, ag_i, ag_r, ag_l, ag_n, st_Z, st_On, st_Oi, st_Or, st_Ol, st_S, s2_eq, mk_t, mk_f, mk_n, cl_v, cl_n, cl_if, vl_0, vl_1, vl_2, cv_i, cv_l, cv_d, cv_f, rf_s, qW_n, qW_i, qW_l, qW_r, qMem, x_get, x_putI, x_putL, x_ldL, x_ldI, x_ldA, x_stL, x_stI, x_isO, MK_1, MK_21, List.set_cons_zero, List.set_cons_succ, List.getElem?_cons_zero, List.getElem?_cons_succ, Option.map_some, List.tail_cons, i64_32, Nat.zero_add, Nat.reduceAdd, Nat.reduceLeDiff, Nat.le_refl, if_true, if_false, ite_true, ite_false, reduceIte, lnO, rfO, fn_0, f_0_0, f_0_1, f_0_2, f_0_3, f_0_4, f_0_5, f_0_6, f_0_7, f_0_8, f_0_9, f_0_10, f_0_11, f_0_12, f_0_13, f_0_14, fn_1, f_1_0, f_1_1, f_1_2, f_1_3, f_1_4, fn_2, f_2_0, f_2_1, f_2_2, f_2_3, f_2_4, f_2_5, fn_3, f_3_0, f_3_1, f_3_2, f_3_3, fn_4, f_4_0, f_4_1, f_4_2, f_4_3, f_4_4, f_4_5, fn_5, f_5_0, f_5_1, f_5_2, fn_6, f_6_0, f_6_1, f_6_2, fn_7, f_7_0, f_7_1, f_7_2, f_7_3, f_7_4, fn_8, f_8_0, f_8_1, f_8_2, f_8_3, f_8_4, f_8_5, f_8_6, f_8_7, fn_9, f_9_0, f_9_1, f_9_2, f_9_3, f_9_4, f_9_5, fn_10, f_10_0, f_10_1, f_10_2, f_10_3, f_10_4, f_10_5, f_10_6, f_10_7, f_10_8, f_10_9, f_10_10, f_10_11, f_10_12, f_10_13, f_10_14, f_10_15, f_10_16, f_10_17, f_10_18, f_10_19, f_10_20, f_10_21, f_10_22, f_10_23, Nat.reduceLT, cv_t, x_ld3, x_ld2, x_st3, x_st2, rm_g2, rm_g3, rm_g4, rm_g5, rm_g6, rm_g7, rm_s2, rm_s3, rm_s4, rm_s5, rm_s6, rm_s7, rm_t, c163, g, h0]
  rw [e]
  exact g2
theorem t169 (hM : ML y M) {k : Int32} : qR PG G (qEntry PG 169 [.ref M, .int k] (MK y (PQ μ M L bg st P E) n s)) = some (.inl none, MK y (PQ μ M L bg st (flP (nI st) P k (nI bg)) E) n s) := by
  obtain ⟨h0, h1⟩ := hM
  have s12 : stc (PQ μ M L bg st P E) M (sv (PQ μ M L bg st P E M) 12 k.toInt64) = PQ μ M L bg st (P.1, k, P.2.2) E := pq_s12
  have s13 : stc (PQ μ M L bg st (P.1, k, P.2.2) E) M (sv (PQ μ M L bg st (P.1, k, P.2.2) E M) 13 (nI bg).toInt64) = PQ μ M L bg st (P.1, k, nI bg, nI st) E := pq_s13
  have g11 : PQ μ M L bg st (P.1, k, P.2.2) E M 11 = (nI bg).toInt64 := pq_g11
  unfold flP
  by_cases hq : P.2.1 = 0
  · rw [if_pos hq]
    simp -implicitDefEqProofs only [e169, K169_0, j169_0, K169_1, j169_1, s_iadd, s_isub, s_imul, s_ineg, s_iand, s_ior, s_ixor, s_ishl, s_ishr, s_iushr, s_i2l, s_l2i, s_i2b, s_i2c, s_ladd, s_lsub, s_lmul, s_lneg, s_land, s_lor, s_lshl, s_lshr, s_lushr, s_lcmp, s_l2d, s_l2f, s_i2d, s_i2f, s_idiv, s_ldiv, s_irem, s_lrem, s_dcmp, s_fcmp, s_ddiv, s_fdiv, s_f2d, s_dup_i, s_dup_r, s_dup2_l, s_dup2_ir, s_pop, s_iconst, s_bipush, s_sipush, s_lconst, s_fconst, s_dconst, s_ldc, s_ldc_w, s_ldc2_w, s_iload, s_iload_n0, s_iload_n1, s_iload_n2, s_iload_n3, s_lload, s_lload_n0, s_lload_n1, s_lload_n2, s_lload_n3, s_fload, s_fload_n0, s_fload_n1, s_fload_n2, s_fload_n3, s_dload, s_dload_n0, s_dload_n1, s_dload_n2, s_dload_n3, s_aload, s_aload_n0, s_aload_n1, s_aload_n2, s_aload_n3, s_istore, s_istore_n0, s_istore_n1, s_istore_n2, s_istore_n3, s_lstore, s_lstore_n0, s_lstore_n1, s_lstore_n2, s_lstore_n3, s_fstore, s_fstore_n0, s_fstore_n1, s_fstore_n2, s_fstore_n3, s_dstore, s_dstore_n0, s_dstore_n1, s_dstore_n2, s_dstore_n3, s_astore, s_astore_n0, s_astore_n1, s_astore_n2, s_astore_n3, s_astoreN_n, s_iinc, s_if_eq, s_if_lt, s_if_ge, s_if_gt, s_if_le, s_if_ne, s_ic_eq, s_ic_lt, s_ic_ge, s_ic_gt, s_ic_le, s_ic_ne, s_ifnn_r, s_ifnn_n, s_goto, s_nop, s_tab, s_getfield, s_putfield, s_anewarray, s_newarray, s_iaload, s_baload, s_caload, s_laload, s_daload, s_aaload, s_iastore, s_bastore, s_castore, s_lastore, s_dastore, s_aastore, s_arraylength, s_lreturn, s_freturn, s_dreturn, s_areturn, s_return, s_new, s_thr, ld_Z, ld_S, kl_Z, pd_0, pd_c, pd_n, ag_i, ag_r, ag_l, ag_n, st_Z, st_On, st_Oi, st_Or, st_Ol, st_S, s2_eq, mk_t, mk_f, mk_n, cl_v, cl_n, cl_if, vl_0, vl_1, vl_2, cv_i, cv_l, cv_d, cv_f, rf_s, qW_n, qW_i, qW_l, qW_r, qMem, x_get, x_putI, x_putL, x_ldL, x_ldI, x_ldA, x_stL, x_stI, x_isO, MK_1, MK_21, List.set_cons_zero, List.set_cons_succ, List.getElem?_cons_zero, List.getElem?_cons_succ, Option.map_some, List.tail_cons, i64_32, Nat.zero_add, Nat.reduceAdd, Nat.reduceLeDiff, Nat.le_refl, if_true, if_false, ite_true, ite_false, reduceIte, lnO, rfO, fn_0, f_0_0, f_0_1, f_0_2, f_0_3, f_0_4, f_0_5, f_0_6, f_0_7, f_0_8, f_0_9, f_0_10, f_0_11, f_0_12, f_0_13, f_0_14, fn_1, f_1_0, f_1_1, f_1_2, f_1_3, f_1_4, fn_2, f_2_0, f_2_1, f_2_2, f_2_3, f_2_4, f_2_5, fn_3, f_3_0, f_3_1, f_3_2, f_3_3, fn_4, f_4_0, f_4_1, f_4_2, f_4_3, f_4_4, f_4_5, fn_5, f_5_0, f_5_1, f_5_2, fn_6, f_6_0, f_6_1, f_6_2, fn_7, f_7_0, f_7_1, f_7_2, f_7_3, f_7_4, fn_8, f_8_0, f_8_1, f_8_2, f_8_3, f_8_4, f_8_5, f_8_6, f_8_7, fn_9, f_9_0, f_9_1, f_9_2, f_9_3, f_9_4, f_9_5, fn_10, f_10_0, f_10_1, f_10_2, f_10_3, f_10_4, f_10_5, f_10_6, f_10_7, f_10_8, f_10_9, f_10_10, f_10_11, f_10_12, f_10_13, f_10_14, f_10_15, f_10_16, f_10_17, f_10_18, f_10_19, f_10_20, f_10_21, f_10_22, f_10_23, Nat.reduceLT, cv_t, x_ld3, x_ld2, x_st3, x_st2, rm_g2, rm_g3, rm_g4, rm_g5, rm_g6, rm_g7, rm_s2, rm_s3, rm_s4, rm_s5, rm_s6, rm_s7, rm_t, h0, pq_g12, g11, s12, s13, if_pos hq]
  · rw [if_neg hq]
    simp -implicitDefEqProofs only [e169, K169_0, j169_0, K169_1, j169_1, s_iadd, s_isub, s_imul, s_ineg, s_iand, s_ior, s_ixor, s_ishl, s_ishr, s_iushr, s_i2l, s_l2i, s_i2b, s_i2c, s_ladd, s_lsub, s_lmul, s_lneg, s_land, s_lor, s_lshl, s_lshr, s_lushr, s_lcmp, s_l2d, s_l2f, s_i2d, s_i2f, s_idiv, s_ldiv, s_irem, s_lrem, s_dcmp, s_fcmp, s_ddiv, s_fdiv, s_f2d, s_dup_i, s_dup_r, s_dup2_l, s_dup2_ir, s_pop, s_iconst, s_bipush, s_sipush, s_lconst, s_fconst, s_dconst, s_ldc, s_ldc_w, s_ldc2_w, s_iload, s_iload_n0, s_iload_n1, s_iload_n2, s_iload_n3, s_lload, s_lload_n0, s_lload_n1, s_lload_n2, s_lload_n3, s_fload, s_fload_n0, s_fload_n1, s_fload_n2, s_fload_n3, s_dload, s_dload_n0, s_dload_n1, s_dload_n2, s_dload_n3, s_aload, s_aload_n0, s_aload_n1, s_aload_n2, s_aload_n3, s_istore, s_istore_n0, s_istore_n1, s_istore_n2, s_istore_n3, s_lstore, s_lstore_n0, s_lstore_n1, s_lstore_n2, s_lstore_n3, s_fstore, s_fstore_n0, s_fstore_n1, s_fstore_n2, s_fstore_n3, s_dstore, s_dstore_n0, s_dstore_n1, s_dstore_n2, s_dstore_n3, s_astore, s_astore_n0, s_astore_n1, s_astore_n2, s_astore_n3, s_astoreN_n, s_iinc, s_if_eq, s_if_lt, s_if_ge, s_if_gt, s_if_le, s_if_ne, s_ic_eq, s_ic_lt, s_ic_ge, s_ic_gt, s_ic_le, s_ic_ne, s_ifnn_r, s_ifnn_n, s_goto, s_nop, s_tab, s_getfield, s_putfield, s_anewarray, s_newarray, s_iaload, s_baload, s_caload, s_laload, s_daload, s_aaload, s_iastore, s_bastore, s_castore, s_lastore, s_dastore, s_aastore, s_arraylength, s_lreturn, s_freturn, s_dreturn, s_areturn, s_return, s_new, s_thr, ld_Z, ld_S, kl_Z, pd_0, pd_c, pd_n, ag_i, ag_r, ag_l, ag_n, st_Z, st_On, st_Oi, st_Or, st_Ol, st_S, s2_eq, mk_t, mk_f, mk_n, cl_v, cl_n, cl_if, vl_0, vl_1, vl_2, cv_i, cv_l, cv_d, cv_f, rf_s, qW_n, qW_i, qW_l, qW_r, qMem, x_get, x_putI, x_putL, x_ldL, x_ldI, x_ldA, x_stL, x_stI, x_isO, MK_1, MK_21, List.set_cons_zero, List.set_cons_succ, List.getElem?_cons_zero, List.getElem?_cons_succ, Option.map_some, List.tail_cons, i64_32, Nat.zero_add, Nat.reduceAdd, Nat.reduceLeDiff, Nat.le_refl, if_true, if_false, ite_true, ite_false, reduceIte, lnO, rfO, fn_0, f_0_0, f_0_1, f_0_2, f_0_3, f_0_4, f_0_5, f_0_6, f_0_7, f_0_8, f_0_9, f_0_10, f_0_11, f_0_12, f_0_13, f_0_14, fn_1, f_1_0, f_1_1, f_1_2, f_1_3, f_1_4, fn_2, f_2_0, f_2_1, f_2_2, f_2_3, f_2_4, f_2_5, fn_3, f_3_0, f_3_1, f_3_2, f_3_3, fn_4, f_4_0, f_4_1, f_4_2, f_4_3, f_4_4, f_4_5, fn_5, f_5_0, f_5_1, f_5_2, fn_6, f_6_0, f_6_1, f_6_2, fn_7, f_7_0, f_7_1, f_7_2, f_7_3, f_7_4, fn_8, f_8_0, f_8_1, f_8_2, f_8_3, f_8_4, f_8_5, f_8_6, f_8_7, fn_9, f_9_0, f_9_1, f_9_2, f_9_3, f_9_4, f_9_5, fn_10, f_10_0, f_10_1, f_10_2, f_10_3, f_10_4, f_10_5, f_10_6, f_10_7, f_10_8, f_10_9, f_10_10, f_10_11, f_10_12, f_10_13, f_10_14, f_10_15, f_10_16, f_10_17, f_10_18, f_10_19, f_10_20, f_10_21, f_10_22, f_10_23, Nat.reduceLT, cv_t, x_ld3, x_ld2, x_st3, x_st2, rm_g2, rm_g3, rm_g4, rm_g5, rm_g6, rm_g7, rm_s2, rm_s3, rm_s4, rm_s5, rm_s6, rm_s7, rm_t, h0, pq_g12, if_neg hq]
end MPA
