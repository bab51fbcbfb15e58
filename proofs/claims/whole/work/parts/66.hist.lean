/-! ===== Books beside each other; the history ===== -/
theorem bkInv_lt (i : Nat) : (bkInv i).1 < 41 := by
  by_cases h : i < 404
  · have key : ∀ i, i < 404 → (bkInv i).1 < 41 := by decide +kernel
    exact key i h
  · unfold bkInv
    rw [if_neg (by omega), if_neg (by omega), if_neg (by omega), if_neg (by omega), if_neg (by omega), if_neg (by omega), if_neg (by omega), if_neg (by omega), if_neg (by omega), if_neg (by omega), if_neg (by omega), if_neg (by omega), if_neg (by omega), if_neg h]
    decide
def vix (i : Nat) : Prop := i ≠ 8 ∧ (i < 393 ∨ (400 ≤ i ∧ i < 404))
theorem bkIx_vix {i : Nat} (h : vix i) : bkIx (bkInv i).1 (bkInv i).2 = some i := by
  have key : ∀ i, i < 404 → i ≠ 8 → (i < 393 ∨ 400 ≤ i) → bkIx (bkInv i).1 (bkInv i).2 = some i := by decide +kernel
  obtain ⟨h8, h | h⟩ := h
  · exact key i (by omega) h8 (Or.inl h)
  · exact key i h.2 h8 (Or.inr h.1)
section MEM2
variable {μ : qMu} {b b' a : Nat} {C D : Row} {d : Nat → Int64}
theorem rd_wr {i : Nat} (h : vix i) : rd (wr μ b C) b i = C i := by
  unfold rd
  exact wr_get (bkIx_vix h)
theorem rd_wr_out (h : b' + 41 ≤ b ∨ b + 41 ≤ b') : rd (wr μ b C) b' = rd μ b' := by
  funext i
  have := bkInv_lt i
  unfold rd
  rw [wr_out (by omega)]
theorem rd_stc_out (h : a < b ∨ b + 41 ≤ a) : rd (stc μ a d) b = rd μ b := by
  funext i
  have := bkInv_lt i
  unfold rd
  rw [stc_ne (by omega)]
theorem wr_comm (h : b' + 41 ≤ b ∨ b + 41 ≤ b') : wr (wr μ b C) b' D = wr (wr μ b' D) b C := by
  funext q j
  by_cases h1 : b ≤ q ∧ q < b + 41
  · have e1 : wr (wr μ b C) b' D q = wr μ b C q := wr_out (by omega)
    rw [e1]
    have e2 : wr μ b' D q = μ q := wr_out (by omega)
    unfold wr at e2 ⊢
    rw [if_pos h1.1, if_pos h1.1]
    cases bkIx (q - b) j with
    | none => exact (congrFun e2 j).symm
    | some i => rfl
  · have e1 : wr (wr μ b' D) b C q = wr μ b' D q := wr_out (by omega)
    rw [e1]
    have e2 : wr μ b C q = μ q := wr_out (by omega)
    unfold wr at e2 ⊢
    split
    · cases bkIx (q - b') j with
      | none => exact congrFun e2 j
      | some i => rfl
    · exact congrFun e2 j
end MEM2
noncomputable def kCpy (C D : Row) : Row := kCopy C D (cn D 1) (cn D 2) (cn D 3) (cn D 4)
section HIS
variable {G : qG} {y : Nat → Option qSh} {μ : qMu} {b b' n s : Nat} {C D : Row} {h : qHp} {cA cE cF cI' cB : Nat}
theorem Ct.cn1 (h : Ct C cA cE cF cI' cB) : cn C 1 = cE := cn_of h.2.2.1 (by have := h.2.2.2.1; omega)
theorem Ct.cn0 (h : Ct C cA cE cF cI' cB) : cn C 0 = cA := cn_of h.1 (by have := h.2.1; omega)
theorem Ct.cn2 (h : Ct C cA cE cF cI' cB) : cn C 2 = cF := cn_of h.2.2.2.2.1 (by have := h.2.2.2.2.2.1; omega)
theorem Ct.cn3 (h : Ct C cA cE cF cI' cB) : cn C 3 = cI' := cn_of h.2.2.2.2.2.2.1 (by have := h.2.2.2.2.2.2.2.1; omega)
theorem Ct.cn4 (h : Ct C cA cE cF cI' cB) : cn C 4 = cB := cn_of h.2.2.2.2.2.2.2.2.1 (by have := h.2.2.2.2.2.2.2.2.2; omega)
theorem t46x (hB : BL y b) (hB2 : BL y b') (hd : b' + 41 ≤ b ∨ b + 41 ≤ b') (hD : CtX D) : qR PG G (qEntry PG 46 [.ref b, .ref b'] (MK y (wr (wr μ b' D) b C) n s)) = some (.inl none, MK y (wr (wr μ b' D) b (kCpy C D)) n s) := by
  obtain ⟨cA, cE, cF, cI', cB, hD⟩ := hD
  unfold kCpy
  rw [hD.cn1, hD.cn2, hD.cn3, hD.cn4]
  exact t46 hB hB2 hd hD
/-- out of another Book -/
theorem t46n (hB : BL y b) (hB2 : BL y b') (hd : b' + 41 ≤ b ∨ b + 41 ≤ b') (hD : CtX (rd μ b')) : qR PG G (qEntry PG 46 [.ref b, .ref b'] (MK y (wr μ b C) n s)) = some (.inl none, MK y (wr μ b (kCpy C (rd μ b'))) n s) := by
  have q := t46x (G := G) (μ := μ) (C := C) (n := n) (s := s) hB hB2 hd hD
  rw [wr_rd] at q
  exact q
/-- into another Book -/
theorem t46s (hB : BL y b) (hB2 : BL y b') (hd : b' + 41 ≤ b ∨ b + 41 ≤ b') (hC : CtX C) : qR PG G (qEntry PG 46 [.ref b', .ref b] (MK y (wr μ b C) n s)) = some (.inl none, MK y (wr (wr μ b' (kCpy (rd μ b') C)) b C) n s) := by
  have q := t46x (G := G) (μ := μ) (C := rd μ b') (n := n) (s := s) hB2 hB (by omega) hC
  rw [wr_comm (by omega), wr_rd, wr_comm (b := b) (by omega)] at q
  exact q
def rfk (a n : Nat) : Nat → Option Nat := fun k => if k < n then some (a + 41 * k) else none
theorem rfk_lt {a n i : Nat} (h : i < n) : rfk a n i = some (a + 41 * i) := by unfold rfk; rw [if_pos h]
def HL (y : Nat → Option qSh) (a : Nat) : Prop := y a = some (.inl (5, shF 5 a)) ∧ y (a + 1) = some (.inr (.inr (10, 8, rfk (a + 2) 8))) ∧ ∀ k, k < 8 → BL y (a + 2 + 41 * k)
/-- the history's memory: its end, its count -/
def Hs (μ : qMu) (a e c : Nat) : Prop := (μ a 2).toInt32 = nI e ∧ e < 8 ∧ (μ a 1).toInt32 = nI c ∧ c ≤ 8
theorem t51 {a : Nat} (hH : HL y a) : qR PG G (qEntry PG 51 [.ref a] (MK y μ n s)) = some (.inl none, MK y (stc μ a (sv (μ a) 1 0)) n s) := by
  obtain ⟨h0, h1, h2⟩ := hH
  have z0 : Int32.toInt64 0 = 0 := rfl
  simp -implicitDefEqProofs only [e51, K51_0, j51_0, x51, s_iadd, s_isub, s_imul, s_ineg, s_iand, s_ior, s_ixor, s_ishl, s_ishr, s_iushr, s_i2l, s_l2i, s_i2b, s_i2c, s_ladd, s_lsub, s_lmul, s_lneg, s_land, s_lor, s_lshl, s_lshr, s_lushr, s_lcmp, s_l2d, s_l2f, s_i2d, s_i2f, s_idiv, s_ldiv, s_irem, s_lrem, s_dcmp, s_fcmp, s_ddiv, s_fdiv, s_f2d, s_dup_i, s_dup_r, s_dup2_l, s_dup2_ir, s_pop, s_iconst, s_bipush, s_sipush, s_lconst, s_fconst, s_dconst, s_ldc, s_ldc_w, s_ldc2_w, s_iload, s_iload_n0, s_iload_n1, s_iload_n2, s_iload_n3, s_lload, s_lload_n0, s_lload_n1, s_lload_n2, s_lload_n3, s_fload, s_fload_n0, s_fload_n1, s_fload_n2, s_fload_n3, s_dload, s_dload_n0, s_dload_n1, s_dload_n2, s_dload_n3, s_aload, s_aload_n0, s_aload_n1, s_aload_n2, s_aload_n3, s_istore, s_istore_n0, s_istore_n1, s_istore_n2, s_istore_n3, s_lstore, s_lstore_n0, s_lstore_n1, s_lstore_n2, s_lstore_n3, s_fstore, s_fstore_n0, s_fstore_n1, s_fstore_n2, s_fstore_n3, s_dstore, s_dstore_n0, s_dstore_n1, s_dstore_n2, s_dstore_n3, s_astore, s_astore_n0, s_astore_n1, s_astore_n2, s_astore_n3, s_astoreN_n, s_iinc, s_if_eq, s_if_lt, s_if_ge, s_if_gt, s_if_le, s_if_ne, s_ic_eq, s_ic_lt, s_ic_ge, s_ic_gt, s_ic_le, s_ic_ne, s_ifnn_r, s_ifnn_n, s_goto, s_nop, s_tab, s_getfield, s_putfield, s_anewarray, s_newarray, s_iaload, s_baload, s_caload, s_laload, s_daload, s_aaload, s_iastore, s_bastore, s_castore, s_lastore, s_dastore, s_aastore, s_arraylength, s_lreturn, s_freturn, s_dreturn, s_areturn, s_return, s_new, s_thr, ld_Z, ld_S, kl_Z, pd_0, pd_c, pd_n, ag_i, ag_r, ag_l, ag_n, st_Z, st_On, st_Oi, st_Or, st_Ol, st_S, s2_eq, mk_t, mk_f, mk_n, cl_v, cl_n, cl_if, vl_0, vl_1, vl_2, cv_i, cv_l, cv_d, cv_f, rf_s, qW_n, qW_i, qW_l, qW_r, qMem, x_get, x_putI, x_putL, x_ldL, x_ldI, x_ldA, x_stL, x_stI, x_isO, MK_1, MK_21, List.set_cons_zero, List.set_cons_succ, List.getElem?_cons_zero, List.getElem?_cons_succ, Option.map_some, List.tail_cons, i64_32, Nat.zero_add, Nat.reduceAdd, Nat.reduceLeDiff, Nat.le_refl, if_true, if_false, ite_true, ite_false, reduceIte, lnO, rfO, fn_0, f_0_0, f_0_1, f_0_2, f_0_3, f_0_4, f_0_5, f_0_6, f_0_7, f_0_8, f_0_9, f_0_10, f_0_11, f_0_12, f_0_13, f_0_14, fn_1, f_1_0, f_1_1, f_1_2, f_1_3, f_1_4, fn_2, f_2_0, f_2_1, f_2_2, f_2_3, f_2_4, f_2_5, fn_3, f_3_0, f_3_1, f_3_2, f_3_3, fn_4, f_4_0, f_4_1, f_4_2, f_4_3, f_4_4, f_4_5, fn_5, f_5_0, f_5_1, f_5_2, fn_6, f_6_0, f_6_1, f_6_2, fn_7, f_7_0, f_7_1, f_7_2, f_7_3, f_7_4, fn_8, f_8_0, f_8_1, f_8_2, f_8_3, f_8_4, f_8_5, f_8_6, f_8_7, fn_9, f_9_0, f_9_1, f_9_2, f_9_3, f_9_4, f_9_5, fn_10, f_10_0, f_10_1, f_10_2, f_10_3, f_10_4, f_10_5, f_10_6, f_10_7, f_10_8, f_10_9, f_10_10, f_10_11, f_10_12, f_10_13, f_10_14, f_10_15, f_10_16, f_10_17, f_10_18, f_10_19, f_10_20, f_10_21, f_10_22, f_10_23, Nat.reduceLT, cv_t, x_ld3, x_ld2, x_st3, x_st2, rm_g2, rm_g3, rm_g4, rm_g5, rm_g6, rm_g7, rm_s2, rm_s3, rm_s4, rm_s5, rm_s6, rm_s7, rm_t, h0, z0]
noncomputable def hRem (μ : qMu) (a e c : Nat) (C : Row) : qMu := stc (wr μ (a + 2 + 41 * e) (kCpy (rd μ (a + 2 + 41 * e)) C)) a (sv (sv (μ a) 2 (nI ((e + 1) % 8)).toInt64) 1 (nI (min (c + 1) 8)).toInt64)
theorem his_step : ∀ l, l < 8 → (nI l + 1) - (nI l + 1) / 8 * 8 = nI ((l + 1) % 8) := by decide +kernel
theorem his_min : ∀ c, c ≤ 8 → mnI (nI c + 1) 8 = nI (min (c + 1) 8) := by decide +kernel
theorem t61 (hB : BL y b) {a e c : Nat} (hH : HL y a) (hd : b + 41 ≤ a) (hS : Hs μ a e c) (hC : CtX C) : qR PG G (qEntry PG 61 [.ref a, .ref b] (MK y (wr μ b C) n s)) = some (.inl none, MK y (wr (hRem μ a e c C) b C) n s) := by
  obtain ⟨h0, h1, h2⟩ := hH
  obtain ⟨s1, s2, s3, s4⟩ := hS
  have q1 := t46s (G := G) (μ := μ) (n := n) (s := s) hB (h2 e s2) (by omega) hC
  have n8 : (8 : Int32) ≠ 0 := by decide
  have i2 : ixok (nI e) 8 := ixok_n s2 (by decide)
  have i3 : (nI e).toNatClampNeg = e := nI_clamp (by omega)
  have g1 : ∀ k, wr μ b C a k = μ a k := fun k => by rw [wr_out (by omega)]
  have g2 : ∀ k K, wr (wr μ (a + 2 + 41 * e) K) b C a k = μ a k := fun k K => by rw [wr_out (by omega), wr_out (by omega)]
  have g3 : ∀ K, wr (wr μ (a + 2 + 41 * e) K) b C a = μ a := fun K => by rw [wr_out (by omega), wr_out (by omega)]
  have g4 : ∀ (ν : qMu) d, stc (wr ν b C) a d = wr (stc ν a d) b C := fun ν d => wr_stc (Or.inr (by omega))
  have g5 : ∀ (ν : qMu) d, wr (stc ν a d) b C a = d := fun ν d => by rw [wr_out (by omega), stc_eq]
  have e1 := his_step e s2
  rw [nia1] at e1
  have e2 := his_min c s4
  rw [nia1] at e2
  have v1 : ∀ v, sv (μ a) 2 v 1 = μ a 1 := fun v => by rw [sv_get, if_neg (by decide)]
  have ho : y b = some (.inl (0, shF 0 b)) := hB.1
  have ho2 : y (a + 2 + 41 * e) = some (.inl (0, shF 0 (a + 2 + 41 * e))) := (h2 e s2).1
  unfold hRem
  simp -implicitDefEqProofs only [e61, K61_0, j61_0, x61, s_iadd, s_isub, s_imul, s_ineg, s_iand, s_ior, s_ixor, s_ishl, s_ishr, s_iushr, s_i2l, s_l2i, s_i2b, s_i2c, s_ladd, s_lsub, s_lmul, s_lneg, s_land, s_lor, s_lshl, s_lshr, s_lushr, s_lcmp, s_l2d, s_l2f, s_i2d, s_i2f, s_idiv, s_ldiv, s_irem, s_lrem, s_dcmp, s_fcmp, s_ddiv, s_fdiv, s_f2d, s_dup_i, s_dup_r, s_dup2_l, s_dup2_ir, s_pop, s_iconst, s_bipush, s_sipush, s_lconst, s_fconst, s_dconst, s_ldc, s_ldc_w, s_ldc2_w, s_iload, s_iload_n0, s_iload_n1, s_iload_n2, s_iload_n3, s_lload, s_lload_n0, s_lload_n1, s_lload_n2, s_lload_n3, s_fload, s_fload_n0, s_fload_n1, s_fload_n2, s_fload_n3, s_dload, s_dload_n0, s_dload_n1, s_dload_n2, s_dload_n3, s_aload, s_aload_n0, s_aload_n1, s_aload_n2, s_aload_n3, s_istore, s_istore_n0, s_istore_n1, s_istore_n2, s_istore_n3, s_lstore, s_lstore_n0, s_lstore_n1, s_lstore_n2, s_lstore_n3, s_fstore, s_fstore_n0, s_fstore_n1, s_fstore_n2, s_fstore_n3, s_dstore, s_dstore_n0, s_dstore_n1, s_dstore_n2, s_dstore_n3, s_astore, s_astore_n0, s_astore_n1, s_astore_n2, s_astore_n3, s_astoreN_n, s_iinc, s_if_eq, s_if_lt, s_if_ge, s_if_gt, s_if_le, s_if_ne, s_ic_eq, s_ic_lt, s_ic_ge, s_ic_gt, s_ic_le, s_ic_ne, s_ifnn_r, s_ifnn_n, s_goto, s_nop, s_tab, s_getfield, s_putfield, s_anewarray, s_newarray, s_iaload, s_baload, s_caload, s_laload, s_daload, s_aaload, s_iastore, s_bastore, s_castore, s_lastore, s_dastore, s_aastore, s_arraylength, s_lreturn, s_freturn, s_dreturn, s_areturn, s_return, s_new, s_thr, ld_Z, ld_S, kl_Z, pd_0, pd_c, pd_n, ag_i, ag_r, ag_l, ag_n, st_Z, st_On, st_Oi, st_Or, st_Ol, st_S, s2_eq, mk_t, mk_f, mk_n, cl_v, cl_n, cl_if, vl_0, vl_1, vl_2, cv_i, cv_l, cv_d, cv_f, rf_s, qW_n, qW_i, qW_l, qW_r, qMem, x_get, x_putI, x_putL, x_ldL, x_ldI, x_ldA, x_stL, x_stI, x_isO, MK_1, MK_21, List.set_cons_zero, List.set_cons_succ, List.getElem?_cons_zero, List.getElem?_cons_succ, Option.map_some, List.tail_cons, i64_32, Nat.zero_add, Nat.reduceAdd, Nat.reduceLeDiff, Nat.le_refl, if_true, if_false, ite_true, ite_false, reduceIte, lnO, rfO, fn_0, f_0_0, f_0_1, f_0_2, f_0_3, f_0_4, f_0_5, f_0_6, f_0_7, f_0_8, f_0_9, f_0_10, f_0_11, f_0_12, f_0_13, f_0_14, fn_1, f_1_0, f_1_1, f_1_2, f_1_3, f_1_4, fn_2, f_2_0, f_2_1, f_2_2, f_2_3, f_2_4, f_2_5, fn_3, f_3_0, f_3_1, f_3_2, f_3_3, fn_4, f_4_0, f_4_1, f_4_2, f_4_3, f_4_4, f_4_5, fn_5, f_5_0, f_5_1, f_5_2, fn_6, f_6_0, f_6_1, f_6_2, fn_7, f_7_0, f_7_1, f_7_2, f_7_3, f_7_4, fn_8, f_8_0, f_8_1, f_8_2, f_8_3, f_8_4, f_8_5, f_8_6, f_8_7, fn_9, f_9_0, f_9_1, f_9_2, f_9_3, f_9_4, f_9_5, fn_10, f_10_0, f_10_1, f_10_2, f_10_3, f_10_4, f_10_5, f_10_6, f_10_7, f_10_8, f_10_9, f_10_10, f_10_11, f_10_12, f_10_13, f_10_14, f_10_15, f_10_16, f_10_17, f_10_18, f_10_19, f_10_20, f_10_21, f_10_22, f_10_23, Nat.reduceLT, cv_t, x_ld3, x_ld2, x_st3, x_st2, rm_g2, rm_g3, rm_g4, rm_g5, rm_g6, rm_g7, rm_s2, rm_s3, rm_s4, rm_s5, rm_s6, rm_s7, rm_t, c46, c1, t1, q1, h0, h1, ho, ho2, g1, g2, g3, g4, g5, s1, s3, i2, i3, rfk_lt s2, s_irem n8, nia1, e1, e2, v1, stc_stc]
/-- the newest is taken back -/
noncomputable def hBak (μ : qMu) (a e c : Nat) : qMu := stc μ a (sv (sv (μ a) 2 (nI ((e + 7) % 8)).toInt64) 1 (nI (c - 1)).toInt64)
theorem his_back : ∀ l, l < 8 → (nI (l + 8) - 1) - (nI (l + 8) - 1) / 8 * 8 = nI ((l + 7) % 8) := by decide +kernel
theorem his_dec : ∀ c, 0 < c → c ≤ 8 → nI c - 1 = nI (c - 1) := by
  intro c h1 h2
  obtain ⟨d, rfl⟩ : ∃ d, c = d + 1 := ⟨c - 1, by omega⟩
  rw [Nat.add_sub_cancel, nI_succ]
  exact Int32.add_sub_cancel _ _
theorem t70 (hB : BL y b) {a e c : Nat} (hH : HL y a) (hd : b + 41 ≤ a) (hS : Hs μ a e c) (hc : 0 < c) (hD : CtX (rd μ (a + 2 + 41 * ((e + 7) % 8)))) : qR PG G (qEntry PG 70 [.ref a, .ref b] (MK y (wr μ b C) n s)) = some (.inl none, MK y (wr (hBak μ a e c) b (kCpy C (rd μ (a + 2 + 41 * ((e + 7) % 8))))) n s) := by
  obtain ⟨h0, h1, h2⟩ := hH
  obtain ⟨s1, s2, s3, s4⟩ := hS
  have e1 := his_back e s2
  have e2 := his_dec c hc s4
  unfold hBak
  have hq : (e + 7) % 8 < 8 := Nat.mod_lt _ (by decide)
  generalize (e + 7) % 8 = q at hq e1 hD ⊢
  have q1 : ∀ v, qR PG G (qEntry PG 46 [.ref b, .ref (a + 2 + 41 * q)] (MK y (wr (stc μ a (sv (μ a) 2 v)) b C) n s)) = some (.inl none, MK y (wr (stc μ a (sv (μ a) 2 v)) b (kCpy C (rd μ (a + 2 + 41 * q)))) n s) := fun v => by
    have q := t46n (G := G) (μ := stc μ a (sv (μ a) 2 v)) (C := C) (n := n) (s := s) hB (h2 q hq) (by omega) (by rw [rd_stc_out (by omega)]; exact hD)
    rw [rd_stc_out (by omega)] at q
    exact q
  have n8 : (8 : Int32) ≠ 0 := by decide
  have e8 : nI e + 8 = nI (e + 8) := mI_add (i := e) (k := 8)
  have i2 : ixok (nI q) 8 := ixok_n hq (by decide)
  have i3 : (nI q).toNatClampNeg = q := nI_clamp (by omega)
  have g1 : ∀ k, wr μ b C a k = μ a k := fun k => by rw [wr_out (by omega)]
  have g3 : ∀ (ν : qMu) K, wr ν b K a = ν a := fun ν K => by rw [wr_out (by omega)]
  have g4 : ∀ (ν : qMu) d K, stc (wr ν b K) a d = wr (stc ν a d) b K := fun ν d K => wr_stc (Or.inr (by omega))
  have v1 : ∀ v, sv (μ a) 2 v 1 = μ a 1 := fun v => by rw [sv_get, if_neg (by decide)]
  have v2 : ∀ v, sv (μ a) 2 v 2 = v := fun v => by rw [sv_get, if_pos rfl]
  have ho : y b = some (.inl (0, shF 0 b)) := hB.1
  have ho2 : y (a + 2 + 41 * q) = some (.inl (0, shF 0 (a + 2 + 41 * q))) := (h2 q hq).1
  simp -implicitDefEqProofs only [e70, K70_0, j70_0, x70, s_iadd, s_isub, s_imul, s_ineg, s_iand, s_ior, s_ixor, s_ishl, s_ishr, s_iushr, s_i2l, s_l2i, s_i2b, s_i2c, s_ladd, s_lsub, s_lmul, s_lneg, s_land, s_lor, s_lshl, s_lshr, s_lushr, s_lcmp, s_l2d, s_l2f, s_i2d, s_i2f, s_idiv, s_ldiv, s_irem, s_lrem, s_dcmp, s_fcmp, s_ddiv, s_fdiv, s_f2d, s_dup_i, s_dup_r, s_dup2_l, s_dup2_ir, s_pop, s_iconst, s_bipush, s_sipush, s_lconst, s_fconst, s_dconst, s_ldc, s_ldc_w, s_ldc2_w, s_iload, s_iload_n0, s_iload_n1, s_iload_n2, s_iload_n3, s_lload, s_lload_n0, s_lload_n1, s_lload_n2, s_lload_n3, s_fload, s_fload_n0, s_fload_n1, s_fload_n2, s_fload_n3, s_dload, s_dload_n0, s_dload_n1, s_dload_n2, s_dload_n3, s_aload, s_aload_n0, s_aload_n1, s_aload_n2, s_aload_n3, s_istore, s_istore_n0, s_istore_n1, s_istore_n2, s_istore_n3, s_lstore, s_lstore_n0, s_lstore_n1, s_lstore_n2, s_lstore_n3, s_fstore, s_fstore_n0, s_fstore_n1, s_fstore_n2, s_fstore_n3, s_dstore, s_dstore_n0, s_dstore_n1, s_dstore_n2, s_dstore_n3, s_astore, s_astore_n0, s_astore_n1, s_astore_n2, s_astore_n3, s_astoreN_n, s_iinc, s_if_eq, s_if_lt, s_if_ge, s_if_gt, s_if_le, s_if_ne, s_ic_eq, s_ic_lt, s_ic_ge, s_ic_gt, s_ic_le, s_ic_ne, s_ifnn_r, s_ifnn_n, s_goto, s_nop, s_tab, s_getfield, s_putfield, s_anewarray, s_newarray, s_iaload, s_baload, s_caload, s_laload, s_daload, s_aaload, s_iastore, s_bastore, s_castore, s_lastore, s_dastore, s_aastore, s_arraylength, s_lreturn, s_freturn, s_dreturn, s_areturn, s_return, s_new, s_thr, ld_Z, ld_S, kl_Z, pd_0, pd_c, pd_n, ag_i, ag_r, ag_l, ag_n, st_Z, st_On, st_Oi, st_Or, st_Ol, st_S, s2_eq, mk_t, mk_f, mk_n, cl_v, cl_n, cl_if, vl_0, vl_1, vl_2, cv_i, cv_l, cv_d, cv_f, rf_s, qW_n, qW_i, qW_l, qW_r, qMem, x_get, x_putI, x_putL, x_ldL, x_ldI, x_ldA, x_stL, x_stI, x_isO, MK_1, MK_21, List.set_cons_zero, List.set_cons_succ, List.getElem?_cons_zero, List.getElem?_cons_succ, Option.map_some, List.tail_cons, i64_32, Nat.zero_add, Nat.reduceAdd, Nat.reduceLeDiff, Nat.le_refl, if_true, if_false, ite_true, ite_false, reduceIte, lnO, rfO, fn_0, f_0_0, f_0_1, f_0_2, f_0_3, f_0_4, f_0_5, f_0_6, f_0_7, f_0_8, f_0_9, f_0_10, f_0_11, f_0_12, f_0_13, f_0_14, fn_1, f_1_0, f_1_1, f_1_2, f_1_3, f_1_4, fn_2, f_2_0, f_2_1, f_2_2, f_2_3, f_2_4, f_2_5, fn_3, f_3_0, f_3_1, f_3_2, f_3_3, fn_4, f_4_0, f_4_1, f_4_2, f_4_3, f_4_4, f_4_5, fn_5, f_5_0, f_5_1, f_5_2, fn_6, f_6_0, f_6_1, f_6_2, fn_7, f_7_0, f_7_1, f_7_2, f_7_3, f_7_4, fn_8, f_8_0, f_8_1, f_8_2, f_8_3, f_8_4, f_8_5, f_8_6, f_8_7, fn_9, f_9_0, f_9_1, f_9_2, f_9_3, f_9_4, f_9_5, fn_10, f_10_0, f_10_1, f_10_2, f_10_3, f_10_4, f_10_5, f_10_6, f_10_7, f_10_8, f_10_9, f_10_10, f_10_11, f_10_12, f_10_13, f_10_14, f_10_15, f_10_16, f_10_17, f_10_18, f_10_19, f_10_20, f_10_21, f_10_22, f_10_23, Nat.reduceLT, cv_t, x_ld3, x_ld2, x_st3, x_st2, rm_g2, rm_g3, rm_g4, rm_g5, rm_g6, rm_g7, rm_s2, rm_s3, rm_s4, rm_s5, rm_s6, rm_s7, rm_t, c46, q1, h0, h1, ho, ho2, g3, g4, stc_eq, s1, s3, i2, i3, rfk_lt hq, s_irem n8, e8, e1, e2, v1, v2, stc_stc]
end HIS
