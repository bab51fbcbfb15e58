/-! ===== A Book copied ===== -/
def cI (x : Int64) : Int64 := x.toInt32.toInt64
def cpR (C : Row) (base len : Nat) (g : Nat → Int64) : Row := fun i => if base ≤ i ∧ i < base + len then g (i - base) else C i
section CP
variable {G : qG} {y : Nat → Option qSh} {μ : qMu} {b b' a n s : Nat} {C D : Row} {h : qHp} {cA cE cF cI' cB : Nat}
theorem x_cp4 (hy : y a = some (.inr (.inl (1, lnO y a)))) (hb : y b = some (.inr (.inl (1, lnO y b)))) (hab : a ≠ b) (h0 : 4 ≤ lnO y a) (h1 : 4 ≤ lnO y b) : qCpy (MK y μ n s) a 0 b 0 4 = some (MK y (stc μ b (va_cpy (μ a) (μ b) 0 0 4)) n s) := g_cpy hy hb hab (by decide) (by decide) (by decide) h0 h1
theorem x_cp6 (hy : y a = some (.inr (.inl (1, lnO y a)))) (hb : y b = some (.inr (.inl (1, lnO y b)))) (hab : a ≠ b) (h0 : 6 ≤ lnO y a) (h1 : 6 ≤ lnO y b) : qCpy (MK y μ n s) a 0 b 0 6 = some (MK y (stc μ b (va_cpy (μ a) (μ b) 0 0 6)) n s) := g_cpy hy hb hab (by decide) (by decide) (by decide) h0 h1
theorem x_cp200 (hy : y a = some (.inr (.inl (1, lnO y a)))) (hb : y b = some (.inr (.inl (1, lnO y b)))) (hab : a ≠ b) (h0 : 200 ≤ lnO y a) (h1 : 200 ≤ lnO y b) : qCpy (MK y μ n s) a 0 b 0 200 = some (MK y (stc μ b (va_cpy (μ a) (μ b) 0 0 200)) n s) := g_cpy hy hb hab (by decide) (by decide) (by decide) h0 h1
theorem ws_cp {o base len : Nat} {f : Nat → Int64} (hix : ∀ j, bkIx o j = if j < len then some (base + j) else none) : stc (wr μ b C) (b + o) (va_cpy f (wr μ b C (b + o)) 0 0 len) = wr μ b (cpR C base len f) := by
  funext q j
  unfold stc
  by_cases hq : q = b + o
  · subst hq
    rw [if_pos rfl]
    unfold va_cpy
    by_cases hj : j < len
    · rw [if_pos (by omega)]
      unfold wr
      rw [if_pos (Nat.le_add_right b o), Nat.add_sub_cancel_left, hix, if_pos hj]
      dsimp only
      unfold cpR
      rw [if_pos (by omega)]
      congr 1
      omega
    · rw [if_neg (by omega)]
      unfold wr
      rw [if_pos (Nat.le_add_right b o), if_pos (Nat.le_add_right b o), Nat.add_sub_cancel_left, hix, if_neg hj]
  · rw [if_neg hq]
    unfold wr
    by_cases hb : b ≤ q
    · rw [if_pos hb, if_pos hb]
      cases hx : bkIx (q - b) j with
      | none => rfl
      | some i =>
        dsimp only
        unfold cpR
        rw [if_neg]
        intro hi
        have h1 : bkIx o (i - base) = some i := by
          rw [hix, if_pos (by omega)]
          congr 1
          omega
        have h2 := (bkIx_inv h1).symm.trans (bkIx_inv hx)
        have h3 : o = q - b := congrArg Prod.fst h2
        omega
    · rw [if_neg hb, if_neg hb]
theorem ws_cp1 {f : Nat → Int64} : stc (wr μ b C) (b + 1) (va_cpy f (wr μ b C (b + 1)) 0 0 4) = wr μ b (cpR C 9 4 f) := ws_cp (fun j => by simp [bkIx])
theorem ws_cp2 {f : Nat → Int64} : stc (wr μ b C) (b + 2) (va_cpy f (wr μ b C (b + 2)) 0 0 6) = wr μ b (cpR C 185 6 f) := ws_cp (fun j => by simp [bkIx])
theorem ws_cp8 {f : Nat → Int64} : stc (wr μ b C) (b + 8) (va_cpy f (wr μ b C (b + 8)) 0 0 200) = wr μ b (cpR C 191 200 f) := ws_cp (fun j => by simp [bkIx])
def kCp0 (C D : Row) : Row := sv (sv (sv (sv (sv (sv (sv (sv C 6 (cI (D 6))) 7 (D 7)) 5 (cI (D 5))) 0 (cI (D 0))) 1 (cI (D 1))) 2 (cI (D 2))) 3 (cI (D 3))) 4 (cI (D 4))
noncomputable def kCp1 (C D : Row) (f g : Nat → Int64) : Row := cpR (cpR (kCp0 C D) 9 4 f) 185 6 g
def kCpE (C D : Row) : Nat → Row
  | 0 => C
  | e + 1 => sv (sv (sv (sv (sv (sv (kCpE C D e) (13 + 6 * e) (D (13 + 6 * e))) (13 + 6 * e + 5) (D (13 + 6 * e + 5))) (13 + 6 * e + 1) (cI (D (13 + 6 * e + 1)))) (13 + 6 * e + 2) (cI (D (13 + 6 * e + 2)))) (13 + 6 * e + 3) (cI (D (13 + 6 * e + 3)))) (13 + 6 * e + 4) (cI (D (13 + 6 * e + 4)))
def kCpF (C D : Row) : Nat → Row
  | 0 => C
  | e + 1 => sv (sv (sv (sv (sv (sv (kCpF C D e) (73 + 6 * e) (D (73 + 6 * e))) (73 + 6 * e + 1) (cI (D (73 + 6 * e + 1)))) (73 + 6 * e + 2) (cI (D (73 + 6 * e + 2)))) (73 + 6 * e + 3) (cI (D (73 + 6 * e + 3)))) (73 + 6 * e + 4) (cI (D (73 + 6 * e + 4)))) (73 + 6 * e + 5) (cI (D (73 + 6 * e + 5)))
def kCpI (C D : Row) : Nat → Row
  | 0 => C
  | e + 1 => sv (sv (sv (sv (sv (kCpI C D e) (400 + e) (cI (D (400 + e)))) (109 + 4 * e) (cI (D (109 + 4 * e)))) (109 + 4 * e + 1) (cI (D (109 + 4 * e + 1)))) (109 + 4 * e + 2) (cI (D (109 + 4 * e + 2)))) (109 + 4 * e + 3) (cI (D (109 + 4 * e + 3)))
def kCpB (C D : Row) : Nat → Row
  | 0 => C
  | e + 1 => sv (sv (sv (sv (sv (kCpB C D e) (125 + 5 * e) (cI (D (125 + 5 * e)))) (125 + 5 * e + 1) (cI (D (125 + 5 * e + 1)))) (125 + 5 * e + 2) (cI (D (125 + 5 * e + 2)))) (125 + 5 * e + 3) (cI (D (125 + 5 * e + 3)))) (125 + 5 * e + 4) (cI (D (125 + 5 * e + 4)))
noncomputable def kCpL (C D : Row) (f : Nat → Int64) : Row := sv (sv (cpR C 191 200 f) 391 (cI (D 391))) 392 (cI (D 392))
theorem kCpE_5 {C D : Row} : ∀ e, K5 C (kCpE C D e)
  | 0 => K5.rf
  | e + 1 => ((((((kCpE_5 e).sv (by omega)).sv (by omega)).sv (by omega)).sv (by omega)).sv (by omega)).sv (by omega)
theorem kCpF_5 {C D : Row} : ∀ e, K5 C (kCpF C D e)
  | 0 => K5.rf
  | e + 1 => ((((((kCpF_5 e).sv (by omega)).sv (by omega)).sv (by omega)).sv (by omega)).sv (by omega)).sv (by omega)
theorem kCpI_5 {C D : Row} : ∀ e, K5 C (kCpI C D e)
  | 0 => K5.rf
  | e + 1 => (((((kCpI_5 e).sv (by omega)).sv (by omega)).sv (by omega)).sv (by omega)).sv (by omega)
theorem kCpB_5 {C D : Row} : ∀ e, K5 C (kCpB C D e)
  | 0 => K5.rf
  | e + 1 => (((((kCpB_5 e).sv (by omega)).sv (by omega)).sv (by omega)).sv (by omega)).sv (by omega)
theorem kCp1_ct {f g : Nat → Int64} (hD : Ct D cA cE cF cI' cB) : Ct (kCp1 C D f g) cA cE cF cI' cB := by
  obtain ⟨h1, h2, h3, h4, h5, h6, h7, h8, h9, h10⟩ := hD
  have e : ∀ i, i < 5 → (kCp1 C D f g i).toInt32 = (D i).toInt32 := by
    intro i hi
    unfold kCp1 cpR
    rw [if_neg (by omega), if_neg (by omega)]
    unfold kCp0 sv cI
    match i, hi with
    | 0, _ => simp
    | 1, _ => simp
    | 2, _ => simp
    | 3, _ => simp
    | 4, _ => simp
    | k + 5, h => omega
  exact ⟨by rw [e 0 (by decide)]; exact h1, h2, by rw [e 1 (by decide)]; exact h3, h4, by rw [e 2 (by decide)]; exact h5, h6, by rw [e 3 (by decide)]; exact h7, h8, by rw [e 4 (by decide)]; exact h9, h10⟩
/-- a whole copy -/
noncomputable def kCopy (C D : Row) (cE cF cI' cB : Nat) : Row :=
  kCpL (kCpB (kCpI (kCpF (kCpE (kCp1 C D (fun j => D (9 + j)) (fun j => D (185 + j))) D cE) D cF) D cI') D cB) D (fun j => D (191 + j))
theorem cpR_eq {C : Row} {base len : Nat} {f g : Nat → Int64} (hfg : ∀ j, j < len → f j = g j) : cpR C base len f = cpR C base len g := by
  funext i
  unfold cpR
  split
  · exact hfg _ (by omega)
  · rfl
theorem t46 (hB : BL y b) (hB2 : BL y b') (hd : b' + 41 ≤ b ∨ b + 41 ≤ b') (hD : Ct D cA cE cF cI' cB) : qR PG G (qEntry PG 46 [.ref b, .ref b'] (MK y (wr (wr μ b' D) b C) n s)) = some (.inl none, MK y (wr (wr μ b' D) b (kCopy C D cE cF cI' cB)) n s) := by
  obtain ⟨h0, h1, h2, h3, h4, h5, h6, h7, h8, h9, h10, h11, h12⟩ := hB
  obtain ⟨g0, g1, g2, g3, g4, g5, g6, g7, g8, g9, g10, g11, g12⟩ := hB2
  have o : ∀ (X : Row) (k : Nat), k < 41 → wr (wr μ b' D) b X (b' + k) = wr μ b' D (b' + k) := fun X k hk => wr_out (by omega)
  have o0 : ∀ (X : Row), wr (wr μ b' D) b X b' = wr μ b' D b' := fun X => o X 0 (by decide)
  have o1 : ∀ (X : Row), wr (wr μ b' D) b X (b' + 1) = wr μ b' D (b' + 1) := fun X => o X 1 (by decide)
  have o2 : ∀ (X : Row), wr (wr μ b' D) b X (b' + 2) = wr μ b' D (b' + 2) := fun X => o X 2 (by decide)
  have o7 : ∀ (X : Row), wr (wr μ b' D) b X (b' + 7) = wr μ b' D (b' + 7) := fun X => o X 7 (by decide)
  have o8 : ∀ (X : Row), wr (wr μ b' D) b X (b' + 8) = wr μ b' D (b' + 8) := fun X => o X 8 (by decide)
  have o9 : ∀ (X : Row) (i : Nat), i < 10 → wr (wr μ b' D) b X (b' + 9 + i) = wr μ b' D (b' + 9 + i) := fun X i hi => by rw [Nat.add_assoc]; exact o X _ (by omega)
  have o19 : ∀ (X : Row) (i : Nat), i < 6 → wr (wr μ b' D) b X (b' + 19 + i) = wr μ b' D (b' + 19 + i) := fun X i hi => by rw [Nat.add_assoc]; exact o X _ (by omega)
  have o25 : ∀ (X : Row) (i : Nat), i < 4 → wr (wr μ b' D) b X (b' + 25 + i) = wr μ b' D (b' + 25 + i) := fun X i hi => by rw [Nat.add_assoc]; exact o X _ (by omega)
  have o29 : ∀ (X : Row) (i : Nat), i < 12 → wr (wr μ b' D) b X (b' + 29 + i) = wr μ b' D (b' + 29 + i) := fun X i hi => by rw [Nat.add_assoc]; exact o X _ (by omega)
  have a1 : b' + 1 ≠ b + 1 := by omega
  have a2 : b' + 2 ≠ b + 2 := by omega
  have a8 : b' + 8 ≠ b + 8 := by omega
  obtain ⟨-, -, -, m4, -, m6, -, m8, -, m10⟩ := id hD
  have hl : qR PG G (qEntry PG 46 [.ref b, .ref b'] (MK y (wr (wr μ b' D) b C) n s)) = qR PG G (46, K46_1, [some (.ref b), some (.ref b'), some (.int 0)], [], MK y (wr (wr μ b' D) b (kCp1 C D (wr μ b' D (b' + 1)) (wr μ b' D (b' + 2)))) n s) := by
    unfold kCp1 kCp0 cI
    simp -implicitDefEqProofs only [e46, K46_0, j46_1, s_iadd, s_isub, s_imul, s_ineg, s_iand, s_ior, s_ixor, s_ishl, s_ishr, s_iushr, s_i2l, s_l2i, s_i2b, s_i2c, s_ladd, s_lsub, s_lmul, s_lneg, s_land, s_lor, s_lshl, s_lshr, s_lushr, s_lcmp, s_l2d, s_l2f, s_i2d, s_i2f, s_idiv, s_ldiv, s_irem, s_lrem, s_dcmp, s_fcmp, s_ddiv, s_fdiv, s_f2d, s_dup_i, s_dup_r, s_dup2_l, s_dup2_ir, s_pop, s_iconst, s_bipush, s_sipush, s_lconst, s_fconst, s_dconst, s_ldc, s_ldc_w, s_ldc2_w, s_iload, s_iload_n0, s_iload_n1, s_iload_n2, s_iload_n3, s_lload, s_lload_n0, s_lload_n1, s_lload_n2, s_lload_n3, s_fload, s_fload_n0, s_fload_n1, s_fload_n2, s_fload_n3, s_dload, s_dload_n0, s_dload_n1, s_dload_n2, s_dload_n3, s_aload, s_aload_n0, s_aload_n1, s_aload_n2, s_aload_n3, s_istore, s_istore_n0, s_istore_n1, s_istore_n2, s_istore_n3, s_lstore, s_lstore_n0, s_lstore_n1, s_lstore_n2, s_lstore_n3, s_fstore, s_fstore_n0, s_fstore_n1, s_fstore_n2, s_fstore_n3, s_dstore, s_dstore_n0, s_dstore_n1, s_dstore_n2, s_dstore_n3, s_astore, s_astore_n0, s_astore_n1, s_astore_n2, s_astore_n3, s_astoreN_n, s_iinc, s_if_eq, s_if_lt, s_if_ge, s_if_gt, s_if_le, s_if_ne, s_ic_eq, s_ic_lt, s_ic_ge, s_ic_gt, s_ic_le, s_ic_ne, s_ifnn_r, s_ifnn_n, s_goto, s_nop, s_tab, s_getfield, s_putfield, s_anewarray, s_newarray, s_iaload, s_baload, s_caload, s_laload, s_daload, s_aaload, s_iastore, s_bastore, s_castore, s_lastore, s_dastore, s_aastore, s_arraylength, s_lreturn, s_freturn, s_dreturn, s_areturn, s_return, s_new, s_thr, ld_Z, ld_S, kl_Z, pd_0, pd_c, pd_n, ag_i, ag_r, ag_l, ag_n, st_Z, st_On, st_Oi, st_Or, st_Ol, st_S, s2_eq, mk_t, mk_f, mk_n, cl_v, cl_n, cl_if, vl_0, vl_1, vl_2, cv_i, cv_l, cv_d, cv_f, rf_s, qW_n, qW_i, qW_l, qW_r, qMem, x_get, x_putI, x_putL, x_ldL, x_ldI, x_ldA, x_stL, x_stI, x_isO, MK_1, MK_21, List.set_cons_zero, List.set_cons_succ, List.getElem?_cons_zero, List.getElem?_cons_succ, Option.map_some, List.tail_cons, i64_32, Nat.zero_add, Nat.reduceAdd, Nat.reduceLeDiff, Nat.le_refl, if_true, if_false, ite_true, ite_false, reduceIte, lnO, rfO, fn_0, f_0_0, f_0_1, f_0_2, f_0_3, f_0_4, f_0_5, f_0_6, f_0_7, f_0_8, f_0_9, f_0_10, f_0_11, f_0_12, f_0_13, f_0_14, fn_1, f_1_0, f_1_1, f_1_2, f_1_3, f_1_4, fn_2, f_2_0, f_2_1, f_2_2, f_2_3, f_2_4, f_2_5, fn_3, f_3_0, f_3_1, f_3_2, f_3_3, fn_4, f_4_0, f_4_1, f_4_2, f_4_3, f_4_4, f_4_5, fn_5, f_5_0, f_5_1, f_5_2, fn_6, f_6_0, f_6_1, f_6_2, fn_7, f_7_0, f_7_1, f_7_2, f_7_3, f_7_4, fn_8, f_8_0, f_8_1, f_8_2, f_8_3, f_8_4, f_8_5, f_8_6, f_8_7, fn_9, f_9_0, f_9_1, f_9_2, f_9_3, f_9_4, f_9_5, fn_10, f_10_0, f_10_1, f_10_2, f_10_3, f_10_4, f_10_5, f_10_6, f_10_7, f_10_8, f_10_9, f_10_10, f_10_11, f_10_12, f_10_13, f_10_14, f_10_15, f_10_16, f_10_17, f_10_18, f_10_19, f_10_20, f_10_21, f_10_22, f_10_23, Nat.reduceLT, s_cpy, x_cp4, x_cp6, h0, h1, h2, g0, g1, g2, o0, o1, o2, a1, a2, ne_eq, not_false_eq_true, wg_day, ws_day, wg_pool, ws_pool, wg_people, ws_people, wg_ac, ws_ac, wg_ec, ws_ec, wg_fc, ws_fc, wg_ic, ws_ic, wg_bc, ws_bc, ws_cp1, ws_cp2]
  rw [hl]
  have q9 : ∀ j, j < 4 → wr μ b' D (b' + 1) j = D (9 + j) := fun j hj => wg_acc hj
  have q185 : ∀ j, j < 6 → wr μ b' D (b' + 2) j = D (185 + j) := fun j hj => wg_net hj
  have e1 : kCp1 C D (wr μ b' D (b' + 1)) (wr μ b' D (b' + 2)) = kCp1 C D (fun j => D (9 + j)) (fun j => D (185 + j)) := by
    unfold kCp1
    rw [cpR_eq q9, cpR_eq q185]
  rw [e1]
  unfold kCopy
  have hC1 : Ct (kCp1 C D (fun j => D (9 + j)) (fun j => D (185 + j))) cA cE cF cI' cB := kCp1_ct hD
  generalize kCp1 C D (fun j => D (9 + j)) (fun j => D (185 + j)) = C1 at hC1
  -- envelopes
  have hs1 : ∀ i, i < cE → qR PG G ((fun i => (46, K46_1, [some (.ref b), some (.ref b'), some (.int (nI i))], [], MK y (wr (wr μ b' D) b (kCpE C1 D i)) n s)) i) = qR PG G ((fun i => (46, K46_1, [some (.ref b), some (.ref b'), some (.int (nI i))], [], MK y (wr (wr μ b' D) b (kCpE C1 D i)) n s)) (i + 1)) := by
    intro i hi
    have ha := (hC1.k5 (kCpE_5 (D := D) i)).2.2.1
    have i1 : ¬ nI cE ≤ nI i := by rw [mI_le (by omega) (by omega)]; omega
    have i2 : ixok (nI i) 10 := ixok_n (by omega) (by decide)
    have i3 : (nI i).toNatClampNeg = i := nI_clamp (by omega)
    have i4 : i < 10 := by omega
    conv => lhs; unfold K46_1
    dsimp only
    rw [kCpE]
    unfold cI
    simp -implicitDefEqProofs only [j46_1, e47, K47_0, j47_0, x47, s_iadd, s_isub, s_imul, s_ineg, s_iand, s_ior, s_ixor, s_ishl, s_ishr, s_iushr, s_i2l, s_l2i, s_i2b, s_i2c, s_ladd, s_lsub, s_lmul, s_lneg, s_land, s_lor, s_lshl, s_lshr, s_lushr, s_lcmp, s_l2d, s_l2f, s_i2d, s_i2f, s_idiv, s_ldiv, s_irem, s_lrem, s_dcmp, s_fcmp, s_ddiv, s_fdiv, s_f2d, s_dup_i, s_dup_r, s_dup2_l, s_dup2_ir, s_pop, s_iconst, s_bipush, s_sipush, s_lconst, s_fconst, s_dconst, s_ldc, s_ldc_w, s_ldc2_w, s_iload, s_iload_n0, s_iload_n1, s_iload_n2, s_iload_n3, s_lload, s_lload_n0, s_lload_n1, s_lload_n2, s_lload_n3, s_fload, s_fload_n0, s_fload_n1, s_fload_n2, s_fload_n3, s_dload, s_dload_n0, s_dload_n1, s_dload_n2, s_dload_n3, s_aload, s_aload_n0, s_aload_n1, s_aload_n2, s_aload_n3, s_istore, s_istore_n0, s_istore_n1, s_istore_n2, s_istore_n3, s_lstore, s_lstore_n0, s_lstore_n1, s_lstore_n2, s_lstore_n3, s_fstore, s_fstore_n0, s_fstore_n1, s_fstore_n2, s_fstore_n3, s_dstore, s_dstore_n0, s_dstore_n1, s_dstore_n2, s_dstore_n3, s_astore, s_astore_n0, s_astore_n1, s_astore_n2, s_astore_n3, s_astoreN_n, s_iinc, s_if_eq, s_if_lt, s_if_ge, s_if_gt, s_if_le, s_if_ne, s_ic_eq, s_ic_lt, s_ic_ge, s_ic_gt, s_ic_le, s_ic_ne, s_ifnn_r, s_ifnn_n, s_goto, s_nop, s_tab, s_getfield, s_putfield, s_anewarray, s_newarray, s_iaload, s_baload, s_caload, s_laload, s_daload, s_aaload, s_iastore, s_bastore, s_castore, s_lastore, s_dastore, s_aastore, s_arraylength, s_lreturn, s_freturn, s_dreturn, s_areturn, s_return, s_new, s_thr, ld_Z, ld_S, kl_Z, pd_0, pd_c, pd_n, ag_i, ag_r, ag_l, ag_n, st_Z, st_On, st_Oi, st_Or, st_Ol, st_S, s2_eq, mk_t, mk_f, mk_n, cl_v, cl_n, cl_if, vl_0, vl_1, vl_2, cv_i, cv_l, cv_d, cv_f, rf_s, qW_n, qW_i, qW_l, qW_r, qMem, x_get, x_putI, x_putL, x_ldL, x_ldI, x_ldA, x_stL, x_stI, x_isO, MK_1, MK_21, List.set_cons_zero, List.set_cons_succ, List.getElem?_cons_zero, List.getElem?_cons_succ, Option.map_some, List.tail_cons, i64_32, Nat.zero_add, Nat.reduceAdd, Nat.reduceLeDiff, Nat.le_refl, if_true, if_false, ite_true, ite_false, reduceIte, lnO, rfO, fn_0, f_0_0, f_0_1, f_0_2, f_0_3, f_0_4, f_0_5, f_0_6, f_0_7, f_0_8, f_0_9, f_0_10, f_0_11, f_0_12, f_0_13, f_0_14, fn_1, f_1_0, f_1_1, f_1_2, f_1_3, f_1_4, fn_2, f_2_0, f_2_1, f_2_2, f_2_3, f_2_4, f_2_5, fn_3, f_3_0, f_3_1, f_3_2, f_3_3, fn_4, f_4_0, f_4_1, f_4_2, f_4_3, f_4_4, f_4_5, fn_5, f_5_0, f_5_1, f_5_2, fn_6, f_6_0, f_6_1, f_6_2, fn_7, f_7_0, f_7_1, f_7_2, f_7_3, f_7_4, fn_8, f_8_0, f_8_1, f_8_2, f_8_3, f_8_4, f_8_5, f_8_6, f_8_7, fn_9, f_9_0, f_9_1, f_9_2, f_9_3, f_9_4, f_9_5, fn_10, f_10_0, f_10_1, f_10_2, f_10_3, f_10_4, f_10_5, f_10_6, f_10_7, f_10_8, f_10_9, f_10_10, f_10_11, f_10_12, f_10_13, f_10_14, f_10_15, f_10_16, f_10_17, f_10_18, f_10_19, f_10_20, f_10_21, f_10_22, f_10_23, Nat.reduceLT, c47, h0, h3, g0, g3, h9 i i4, g9 i i4, o0, o9 _ _ i4, wg_ec, ha, i1, i2, i3, gE0 i4, gE1 i4, gE2 i4, gE3 i4, gE4 i4, gE5 i4, sE0 i4, sE1 i4, sE2 i4, sE3 i4, sE4 i4, sE5 i4, rfs_lt i4, mI_inc]
  refine (lp hs1 0 (Nat.zero_le _)).trans ?_
  have hC2 := hC1.k5 (kCpE_5 (D := D) cE)
  generalize kCpE C1 D cE = C2 at hC2
  have hl2 : qR PG G (46, K46_1, [some (.ref b), some (.ref b'), some (.int (nI cE))], [], MK y (wr (wr μ b' D) b C2) n s) = qR PG G (46, K46_3, [some (.ref b), some (.ref b'), some (.int 0)], [], MK y (wr (wr μ b' D) b C2) n s) := by
    have ha := hC2.2.2.1
    simp -implicitDefEqProofs only [K46_1, K46_2, j46_2, j46_3, s_iadd, s_isub, s_imul, s_ineg, s_iand, s_ior, s_ixor, s_ishl, s_ishr, s_iushr, s_i2l, s_l2i, s_i2b, s_i2c, s_ladd, s_lsub, s_lmul, s_lneg, s_land, s_lor, s_lshl, s_lshr, s_lushr, s_lcmp, s_l2d, s_l2f, s_i2d, s_i2f, s_idiv, s_ldiv, s_irem, s_lrem, s_dcmp, s_fcmp, s_ddiv, s_fdiv, s_f2d, s_dup_i, s_dup_r, s_dup2_l, s_dup2_ir, s_pop, s_iconst, s_bipush, s_sipush, s_lconst, s_fconst, s_dconst, s_ldc, s_ldc_w, s_ldc2_w, s_iload, s_iload_n0, s_iload_n1, s_iload_n2, s_iload_n3, s_lload, s_lload_n0, s_lload_n1, s_lload_n2, s_lload_n3, s_fload, s_fload_n0, s_fload_n1, s_fload_n2, s_fload_n3, s_dload, s_dload_n0, s_dload_n1, s_dload_n2, s_dload_n3, s_aload, s_aload_n0, s_aload_n1, s_aload_n2, s_aload_n3, s_istore, s_istore_n0, s_istore_n1, s_istore_n2, s_istore_n3, s_lstore, s_lstore_n0, s_lstore_n1, s_lstore_n2, s_lstore_n3, s_fstore, s_fstore_n0, s_fstore_n1, s_fstore_n2, s_fstore_n3, s_dstore, s_dstore_n0, s_dstore_n1, s_dstore_n2, s_dstore_n3, s_astore, s_astore_n0, s_astore_n1, s_astore_n2, s_astore_n3, s_astoreN_n, s_iinc, s_if_eq, s_if_lt, s_if_ge, s_if_gt, s_if_le, s_if_ne, s_ic_eq, s_ic_lt, s_ic_ge, s_ic_gt, s_ic_le, s_ic_ne, s_ifnn_r, s_ifnn_n, s_goto, s_nop, s_tab, s_getfield, s_putfield, s_anewarray, s_newarray, s_iaload, s_baload, s_caload, s_laload, s_daload, s_aaload, s_iastore, s_bastore, s_castore, s_lastore, s_dastore, s_aastore, s_arraylength, s_lreturn, s_freturn, s_dreturn, s_areturn, s_return, s_new, s_thr, ld_Z, ld_S, kl_Z, pd_0, pd_c, pd_n, ag_i, ag_r, ag_l, ag_n, st_Z, st_On, st_Oi, st_Or, st_Ol, st_S, s2_eq, mk_t, mk_f, mk_n, cl_v, cl_n, cl_if, vl_0, vl_1, vl_2, cv_i, cv_l, cv_d, cv_f, rf_s, qW_n, qW_i, qW_l, qW_r, qMem, x_get, x_putI, x_putL, x_ldL, x_ldI, x_ldA, x_stL, x_stI, x_isO, MK_1, MK_21, List.set_cons_zero, List.set_cons_succ, List.getElem?_cons_zero, List.getElem?_cons_succ, Option.map_some, List.tail_cons, i64_32, Nat.zero_add, Nat.reduceAdd, Nat.reduceLeDiff, Nat.le_refl, if_true, if_false, ite_true, ite_false, reduceIte, lnO, rfO, fn_0, f_0_0, f_0_1, f_0_2, f_0_3, f_0_4, f_0_5, f_0_6, f_0_7, f_0_8, f_0_9, f_0_10, f_0_11, f_0_12, f_0_13, f_0_14, fn_1, f_1_0, f_1_1, f_1_2, f_1_3, f_1_4, fn_2, f_2_0, f_2_1, f_2_2, f_2_3, f_2_4, f_2_5, fn_3, f_3_0, f_3_1, f_3_2, f_3_3, fn_4, f_4_0, f_4_1, f_4_2, f_4_3, f_4_4, f_4_5, fn_5, f_5_0, f_5_1, f_5_2, fn_6, f_6_0, f_6_1, f_6_2, fn_7, f_7_0, f_7_1, f_7_2, f_7_3, f_7_4, fn_8, f_8_0, f_8_1, f_8_2, f_8_3, f_8_4, f_8_5, f_8_6, f_8_7, fn_9, f_9_0, f_9_1, f_9_2, f_9_3, f_9_4, f_9_5, fn_10, f_10_0, f_10_1, f_10_2, f_10_3, f_10_4, f_10_5, f_10_6, f_10_7, f_10_8, f_10_9, f_10_10, f_10_11, f_10_12, f_10_13, f_10_14, f_10_15, f_10_16, f_10_17, f_10_18, f_10_19, f_10_20, f_10_21, f_10_22, f_10_23, Nat.reduceLT, h0, wg_ec, ha, Int32.le_refl]
  refine hl2.trans ?_
  have hs3 : ∀ i, i < cF → qR PG G ((fun i => (46, K46_3, [some (.ref b), some (.ref b'), some (.int (nI i))], [], MK y (wr (wr μ b' D) b (kCpF C2 D i)) n s)) i) = qR PG G ((fun i => (46, K46_3, [some (.ref b), some (.ref b'), some (.int (nI i))], [], MK y (wr (wr μ b' D) b (kCpF C2 D i)) n s)) (i + 1)) := by
    intro i hi
    have ha := (hC2.k5 (kCpF_5 (D := D) i)).2.2.2.2.1
    have i1 : ¬ nI cF ≤ nI i := by rw [mI_le (by omega) (by omega)]; omega
    have i2 : ixok (nI i) 6 := ixok_n (by omega) (by decide)
    have i3 : (nI i).toNatClampNeg = i := nI_clamp (by omega)
    have i4 : i < 6 := by omega
    conv => lhs; unfold K46_3
    dsimp only
    rw [kCpF]
    unfold cI
    simp -implicitDefEqProofs only [j46_3, e48, K48_0, j48_0, x48, s_iadd, s_isub, s_imul, s_ineg, s_iand, s_ior, s_ixor, s_ishl, s_ishr, s_iushr, s_i2l, s_l2i, s_i2b, s_i2c, s_ladd, s_lsub, s_lmul, s_lneg, s_land, s_lor, s_lshl, s_lshr, s_lushr, s_lcmp, s_l2d, s_l2f, s_i2d, s_i2f, s_idiv, s_ldiv, s_irem, s_lrem, s_dcmp, s_fcmp, s_ddiv, s_fdiv, s_f2d, s_dup_i, s_dup_r, s_dup2_l, s_dup2_ir, s_pop, s_iconst, s_bipush, s_sipush, s_lconst, s_fconst, s_dconst, s_ldc, s_ldc_w, s_ldc2_w, s_iload, s_iload_n0, s_iload_n1, s_iload_n2, s_iload_n3, s_lload, s_lload_n0, s_lload_n1, s_lload_n2, s_lload_n3, s_fload, s_fload_n0, s_fload_n1, s_fload_n2, s_fload_n3, s_dload, s_dload_n0, s_dload_n1, s_dload_n2, s_dload_n3, s_aload, s_aload_n0, s_aload_n1, s_aload_n2, s_aload_n3, s_istore, s_istore_n0, s_istore_n1, s_istore_n2, s_istore_n3, s_lstore, s_lstore_n0, s_lstore_n1, s_lstore_n2, s_lstore_n3, s_fstore, s_fstore_n0, s_fstore_n1, s_fstore_n2, s_fstore_n3, s_dstore, s_dstore_n0, s_dstore_n1, s_dstore_n2, s_dstore_n3, s_astore, s_astore_n0, s_astore_n1, s_astore_n2, s_astore_n3, s_astoreN_n, s_iinc, s_if_eq, s_if_lt, s_if_ge, s_if_gt, s_if_le, s_if_ne, s_ic_eq, s_ic_lt, s_ic_ge, s_ic_gt, s_ic_le, s_ic_ne, s_ifnn_r, s_ifnn_n, s_goto, s_nop, s_tab, s_getfield, s_putfield, s_anewarray, s_newarray, s_iaload, s_baload, s_caload, s_laload, s_daload, s_aaload, s_iastore, s_bastore, s_castore, s_lastore, s_dastore, s_aastore, s_arraylength, s_lreturn, s_freturn, s_dreturn, s_areturn, s_return, s_new, s_thr, ld_Z, ld_S, kl_Z, pd_0, pd_c, pd_n, ag_i, ag_r, ag_l, ag_n, st_Z, st_On, st_Oi, st_Or, st_Ol, st_S, s2_eq, mk_t, mk_f, mk_n, cl_v, cl_n, cl_if, vl_0, vl_1, vl_2, cv_i, cv_l, cv_d, cv_f, rf_s, qW_n, qW_i, qW_l, qW_r, qMem, x_get, x_putI, x_putL, x_ldL, x_ldI, x_ldA, x_stL, x_stI, x_isO, MK_1, MK_21, List.set_cons_zero, List.set_cons_succ, List.getElem?_cons_zero, List.getElem?_cons_succ, Option.map_some, List.tail_cons, i64_32, Nat.zero_add, Nat.reduceAdd, Nat.reduceLeDiff, Nat.le_refl, if_true, if_false, ite_true, ite_false, reduceIte, lnO, rfO, fn_0, f_0_0, f_0_1, f_0_2, f_0_3, f_0_4, f_0_5, f_0_6, f_0_7, f_0_8, f_0_9, f_0_10, f_0_11, f_0_12, f_0_13, f_0_14, fn_1, f_1_0, f_1_1, f_1_2, f_1_3, f_1_4, fn_2, f_2_0, f_2_1, f_2_2, f_2_3, f_2_4, f_2_5, fn_3, f_3_0, f_3_1, f_3_2, f_3_3, fn_4, f_4_0, f_4_1, f_4_2, f_4_3, f_4_4, f_4_5, fn_5, f_5_0, f_5_1, f_5_2, fn_6, f_6_0, f_6_1, f_6_2, fn_7, f_7_0, f_7_1, f_7_2, f_7_3, f_7_4, fn_8, f_8_0, f_8_1, f_8_2, f_8_3, f_8_4, f_8_5, f_8_6, f_8_7, fn_9, f_9_0, f_9_1, f_9_2, f_9_3, f_9_4, f_9_5, fn_10, f_10_0, f_10_1, f_10_2, f_10_3, f_10_4, f_10_5, f_10_6, f_10_7, f_10_8, f_10_9, f_10_10, f_10_11, f_10_12, f_10_13, f_10_14, f_10_15, f_10_16, f_10_17, f_10_18, f_10_19, f_10_20, f_10_21, f_10_22, f_10_23, Nat.reduceLT, c48, h0, h4, g0, g4, h10 i i4, g10 i i4, o0, o19 _ _ i4, wg_fc, ha, i1, i2, i3, gF0 i4, gF1 i4, gF2 i4, gF3 i4, gF4 i4, gF5 i4, sF0 i4, sF1 i4, sF2 i4, sF3 i4, sF4 i4, sF5 i4, rfs_lt i4, mI_inc]
  refine (lp hs3 0 (Nat.zero_le _)).trans ?_
  have hC3 := hC2.k5 (kCpF_5 (D := D) cF)
  generalize kCpF C2 D cF = C3 at hC3
  have hl3 : qR PG G (46, K46_3, [some (.ref b), some (.ref b'), some (.int (nI cF))], [], MK y (wr (wr μ b' D) b C3) n s) = qR PG G (46, K46_5, [some (.ref b), some (.ref b'), some (.int 0)], [], MK y (wr (wr μ b' D) b C3) n s) := by
    have ha := hC3.2.2.2.2.1
    simp -implicitDefEqProofs only [K46_3, K46_4, j46_4, j46_5, s_iadd, s_isub, s_imul, s_ineg, s_iand, s_ior, s_ixor, s_ishl, s_ishr, s_iushr, s_i2l, s_l2i, s_i2b, s_i2c, s_ladd, s_lsub, s_lmul, s_lneg, s_land, s_lor, s_lshl, s_lshr, s_lushr, s_lcmp, s_l2d, s_l2f, s_i2d, s_i2f, s_idiv, s_ldiv, s_irem, s_lrem, s_dcmp, s_fcmp, s_ddiv, s_fdiv, s_f2d, s_dup_i, s_dup_r, s_dup2_l, s_dup2_ir, s_pop, s_iconst, s_bipush, s_sipush, s_lconst, s_fconst, s_dconst, s_ldc, s_ldc_w, s_ldc2_w, s_iload, s_iload_n0, s_iload_n1, s_iload_n2, s_iload_n3, s_lload, s_lload_n0, s_lload_n1, s_lload_n2, s_lload_n3, s_fload, s_fload_n0, s_fload_n1, s_fload_n2, s_fload_n3, s_dload, s_dload_n0, s_dload_n1, s_dload_n2, s_dload_n3, s_aload, s_aload_n0, s_aload_n1, s_aload_n2, s_aload_n3, s_istore, s_istore_n0, s_istore_n1, s_istore_n2, s_istore_n3, s_lstore, s_lstore_n0, s_lstore_n1, s_lstore_n2, s_lstore_n3, s_fstore, s_fstore_n0, s_fstore_n1, s_fstore_n2, s_fstore_n3, s_dstore, s_dstore_n0, s_dstore_n1, s_dstore_n2, s_dstore_n3, s_astore, s_astore_n0, s_astore_n1, s_astore_n2, s_astore_n3, s_astoreN_n, s_iinc, s_if_eq, s_if_lt, s_if_ge, s_if_gt, s_if_le, s_if_ne, s_ic_eq, s_ic_lt, s_ic_ge, s_ic_gt, s_ic_le, s_ic_ne, s_ifnn_r, s_ifnn_n, s_goto, s_nop, s_tab, s_getfield, s_putfield, s_anewarray, s_newarray, s_iaload, s_baload, s_caload, s_laload, s_daload, s_aaload, s_iastore, s_bastore, s_castore, s_lastore, s_dastore, s_aastore, s_arraylength, s_lreturn, s_freturn, s_dreturn, s_areturn, s_return, s_new, s_thr, ld_Z, ld_S, kl_Z, pd_0, pd_c, pd_n, ag_i, ag_r, ag_l, ag_n, st_Z, st_On, st_Oi, st_Or, st_Ol, st_S, s2_eq, mk_t, mk_f, mk_n, cl_v, cl_n, cl_if, vl_0, vl_1, vl_2, cv_i, cv_l, cv_d, cv_f, rf_s, qW_n, qW_i, qW_l, qW_r, qMem, x_get, x_putI, x_putL, x_ldL, x_ldI, x_ldA, x_stL, x_stI, x_isO, MK_1, MK_21, List.set_cons_zero, List.set_cons_succ, List.getElem?_cons_zero, List.getElem?_cons_succ, Option.map_some, List.tail_cons, i64_32, Nat.zero_add, Nat.reduceAdd, Nat.reduceLeDiff, Nat.le_refl, if_true, if_false, ite_true, ite_false, reduceIte, lnO, rfO, fn_0, f_0_0, f_0_1, f_0_2, f_0_3, f_0_4, f_0_5, f_0_6, f_0_7, f_0_8, f_0_9, f_0_10, f_0_11, f_0_12, f_0_13, f_0_14, fn_1, f_1_0, f_1_1, f_1_2, f_1_3, f_1_4, fn_2, f_2_0, f_2_1, f_2_2, f_2_3, f_2_4, f_2_5, fn_3, f_3_0, f_3_1, f_3_2, f_3_3, fn_4, f_4_0, f_4_1, f_4_2, f_4_3, f_4_4, f_4_5, fn_5, f_5_0, f_5_1, f_5_2, fn_6, f_6_0, f_6_1, f_6_2, fn_7, f_7_0, f_7_1, f_7_2, f_7_3, f_7_4, fn_8, f_8_0, f_8_1, f_8_2, f_8_3, f_8_4, f_8_5, f_8_6, f_8_7, fn_9, f_9_0, f_9_1, f_9_2, f_9_3, f_9_4, f_9_5, fn_10, f_10_0, f_10_1, f_10_2, f_10_3, f_10_4, f_10_5, f_10_6, f_10_7, f_10_8, f_10_9, f_10_10, f_10_11, f_10_12, f_10_13, f_10_14, f_10_15, f_10_16, f_10_17, f_10_18, f_10_19, f_10_20, f_10_21, f_10_22, f_10_23, Nat.reduceLT, h0, wg_fc, ha, Int32.le_refl]
  refine hl3.trans ?_
  have hs5 : ∀ i, i < cI' → qR PG G ((fun i => (46, K46_5, [some (.ref b), some (.ref b'), some (.int (nI i))], [], MK y (wr (wr μ b' D) b (kCpI C3 D i)) n s)) i) = qR PG G ((fun i => (46, K46_5, [some (.ref b), some (.ref b'), some (.int (nI i))], [], MK y (wr (wr μ b' D) b (kCpI C3 D i)) n s)) (i + 1)) := by
    intro i hi
    have ha := (hC3.k5 (kCpI_5 (D := D) i)).2.2.2.2.2.2.1
    have i1 : ¬ nI cI' ≤ nI i := by rw [mI_le (by omega) (by omega)]; omega
    have i2 : ixok (nI i) 4 := ixok_n (by omega) (by decide)
    have i3 : (nI i).toNatClampNeg = i := nI_clamp (by omega)
    have i4 : i < 4 := by omega
    conv => lhs; unfold K46_5
    dsimp only
    rw [kCpI]
    unfold cI
    simp -implicitDefEqProofs only [j46_5, e49, K49_0, j49_0, x49, e41, K41_0, j41_0, x41, s_iadd, s_isub, s_imul, s_ineg, s_iand, s_ior, s_ixor, s_ishl, s_ishr, s_iushr, s_i2l, s_l2i, s_i2b, s_i2c, s_ladd, s_lsub, s_lmul, s_lneg, s_land, s_lor, s_lshl, s_lshr, s_lushr, s_lcmp, s_l2d, s_l2f, s_i2d, s_i2f, s_idiv, s_ldiv, s_irem, s_lrem, s_dcmp, s_fcmp, s_ddiv, s_fdiv, s_f2d, s_dup_i, s_dup_r, s_dup2_l, s_dup2_ir, s_pop, s_iconst, s_bipush, s_sipush, s_lconst, s_fconst, s_dconst, s_ldc, s_ldc_w, s_ldc2_w, s_iload, s_iload_n0, s_iload_n1, s_iload_n2, s_iload_n3, s_lload, s_lload_n0, s_lload_n1, s_lload_n2, s_lload_n3, s_fload, s_fload_n0, s_fload_n1, s_fload_n2, s_fload_n3, s_dload, s_dload_n0, s_dload_n1, s_dload_n2, s_dload_n3, s_aload, s_aload_n0, s_aload_n1, s_aload_n2, s_aload_n3, s_istore, s_istore_n0, s_istore_n1, s_istore_n2, s_istore_n3, s_lstore, s_lstore_n0, s_lstore_n1, s_lstore_n2, s_lstore_n3, s_fstore, s_fstore_n0, s_fstore_n1, s_fstore_n2, s_fstore_n3, s_dstore, s_dstore_n0, s_dstore_n1, s_dstore_n2, s_dstore_n3, s_astore, s_astore_n0, s_astore_n1, s_astore_n2, s_astore_n3, s_astoreN_n, s_iinc, s_if_eq, s_if_lt, s_if_ge, s_if_gt, s_if_le, s_if_ne, s_ic_eq, s_ic_lt, s_ic_ge, s_ic_gt, s_ic_le, s_ic_ne, s_ifnn_r, s_ifnn_n, s_goto, s_nop, s_tab, s_getfield, s_putfield, s_anewarray, s_newarray, s_iaload, s_baload, s_caload, s_laload, s_daload, s_aaload, s_iastore, s_bastore, s_castore, s_lastore, s_dastore, s_aastore, s_arraylength, s_lreturn, s_freturn, s_dreturn, s_areturn, s_return, s_new, s_thr, ld_Z, ld_S, kl_Z, pd_0, pd_c, pd_n, ag_i, ag_r, ag_l, ag_n, st_Z, st_On, st_Oi, st_Or, st_Ol, st_S, s2_eq, mk_t, mk_f, mk_n, cl_v, cl_n, cl_if, vl_0, vl_1, vl_2, cv_i, cv_l, cv_d, cv_f, rf_s, qW_n, qW_i, qW_l, qW_r, qMem, x_get, x_putI, x_putL, x_ldL, x_ldI, x_ldA, x_stL, x_stI, x_isO, MK_1, MK_21, List.set_cons_zero, List.set_cons_succ, List.getElem?_cons_zero, List.getElem?_cons_succ, Option.map_some, List.tail_cons, i64_32, Nat.zero_add, Nat.reduceAdd, Nat.reduceLeDiff, Nat.le_refl, if_true, if_false, ite_true, ite_false, reduceIte, lnO, rfO, fn_0, f_0_0, f_0_1, f_0_2, f_0_3, f_0_4, f_0_5, f_0_6, f_0_7, f_0_8, f_0_9, f_0_10, f_0_11, f_0_12, f_0_13, f_0_14, fn_1, f_1_0, f_1_1, f_1_2, f_1_3, f_1_4, fn_2, f_2_0, f_2_1, f_2_2, f_2_3, f_2_4, f_2_5, fn_3, f_3_0, f_3_1, f_3_2, f_3_3, fn_4, f_4_0, f_4_1, f_4_2, f_4_3, f_4_4, f_4_5, fn_5, f_5_0, f_5_1, f_5_2, fn_6, f_6_0, f_6_1, f_6_2, fn_7, f_7_0, f_7_1, f_7_2, f_7_3, f_7_4, fn_8, f_8_0, f_8_1, f_8_2, f_8_3, f_8_4, f_8_5, f_8_6, f_8_7, fn_9, f_9_0, f_9_1, f_9_2, f_9_3, f_9_4, f_9_5, fn_10, f_10_0, f_10_1, f_10_2, f_10_3, f_10_4, f_10_5, f_10_6, f_10_7, f_10_8, f_10_9, f_10_10, f_10_11, f_10_12, f_10_13, f_10_14, f_10_15, f_10_16, f_10_17, f_10_18, f_10_19, f_10_20, f_10_21, f_10_22, f_10_23, Nat.reduceLT, c49, c41, h0, h5, g0, g5, h11 i i4, g11 i i4, o0, o25 _ _ i4, wg_ic, ha, i1, i2, i3, gI0 i4, gI1 i4, gI2 i4, gI3 i4, gI4 i4, sI0 i4, sI1 i4, sI2 i4, sI3 i4, sI4 i4, rfs_lt i4, mI_inc]
  refine (lp hs5 0 (Nat.zero_le _)).trans ?_
  have hC4 := hC3.k5 (kCpI_5 (D := D) cI')
  generalize kCpI C3 D cI' = C4 at hC4
  have hl4 : qR PG G (46, K46_5, [some (.ref b), some (.ref b'), some (.int (nI cI'))], [], MK y (wr (wr μ b' D) b C4) n s) = qR PG G (46, K46_7, [some (.ref b), some (.ref b'), some (.int 0)], [], MK y (wr (wr μ b' D) b C4) n s) := by
    have ha := hC4.2.2.2.2.2.2.1
    simp -implicitDefEqProofs only [K46_5, K46_6, j46_6, j46_7, s_iadd, s_isub, s_imul, s_ineg, s_iand, s_ior, s_ixor, s_ishl, s_ishr, s_iushr, s_i2l, s_l2i, s_i2b, s_i2c, s_ladd, s_lsub, s_lmul, s_lneg, s_land, s_lor, s_lshl, s_lshr, s_lushr, s_lcmp, s_l2d, s_l2f, s_i2d, s_i2f, s_idiv, s_ldiv, s_irem, s_lrem, s_dcmp, s_fcmp, s_ddiv, s_fdiv, s_f2d, s_dup_i, s_dup_r, s_dup2_l, s_dup2_ir, s_pop, s_iconst, s_bipush, s_sipush, s_lconst, s_fconst, s_dconst, s_ldc, s_ldc_w, s_ldc2_w, s_iload, s_iload_n0, s_iload_n1, s_iload_n2, s_iload_n3, s_lload, s_lload_n0, s_lload_n1, s_lload_n2, s_lload_n3, s_fload, s_fload_n0, s_fload_n1, s_fload_n2, s_fload_n3, s_dload, s_dload_n0, s_dload_n1, s_dload_n2, s_dload_n3, s_aload, s_aload_n0, s_aload_n1, s_aload_n2, s_aload_n3, s_istore, s_istore_n0, s_istore_n1, s_istore_n2, s_istore_n3, s_lstore, s_lstore_n0, s_lstore_n1, s_lstore_n2, s_lstore_n3, s_fstore, s_fstore_n0, s_fstore_n1, s_fstore_n2, s_fstore_n3, s_dstore, s_dstore_n0, s_dstore_n1, s_dstore_n2, s_dstore_n3, s_astore, s_astore_n0, s_astore_n1, s_astore_n2, s_astore_n3, s_astoreN_n, s_iinc, s_if_eq, s_if_lt, s_if_ge, s_if_gt, s_if_le, s_if_ne, s_ic_eq, s_ic_lt, s_ic_ge, s_ic_gt, s_ic_le, s_ic_ne, s_ifnn_r, s_ifnn_n, s_goto, s_nop, s_tab, s_getfield, s_putfield, s_anewarray, s_newarray, s_iaload, s_baload, s_caload, s_laload, s_daload, s_aaload, s_iastore, s_bastore, s_castore, s_lastore, s_dastore, s_aastore, s_arraylength, s_lreturn, s_freturn, s_dreturn, s_areturn, s_return, s_new, s_thr, ld_Z, ld_S, kl_Z, pd_0, pd_c, pd_n, ag_i, ag_r, ag_l, ag_n, st_Z, st_On, st_Oi, st_Or, st_Ol, st_S, s2_eq, mk_t, mk_f, mk_n, cl_v, cl_n, cl_if, vl_0, vl_1, vl_2, cv_i, cv_l, cv_d, cv_f, rf_s, qW_n, qW_i, qW_l, qW_r, qMem, x_get, x_putI, x_putL, x_ldL, x_ldI, x_ldA, x_stL, x_stI, x_isO, MK_1, MK_21, List.set_cons_zero, List.set_cons_succ, List.getElem?_cons_zero, List.getElem?_cons_succ, Option.map_some, List.tail_cons, i64_32, Nat.zero_add, Nat.reduceAdd, Nat.reduceLeDiff, Nat.le_refl, if_true, if_false, ite_true, ite_false, reduceIte, lnO, rfO, fn_0, f_0_0, f_0_1, f_0_2, f_0_3, f_0_4, f_0_5, f_0_6, f_0_7, f_0_8, f_0_9, f_0_10, f_0_11, f_0_12, f_0_13, f_0_14, fn_1, f_1_0, f_1_1, f_1_2, f_1_3, f_1_4, fn_2, f_2_0, f_2_1, f_2_2, f_2_3, f_2_4, f_2_5, fn_3, f_3_0, f_3_1, f_3_2, f_3_3, fn_4, f_4_0, f_4_1, f_4_2, f_4_3, f_4_4, f_4_5, fn_5, f_5_0, f_5_1, f_5_2, fn_6, f_6_0, f_6_1, f_6_2, fn_7, f_7_0, f_7_1, f_7_2, f_7_3, f_7_4, fn_8, f_8_0, f_8_1, f_8_2, f_8_3, f_8_4, f_8_5, f_8_6, f_8_7, fn_9, f_9_0, f_9_1, f_9_2, f_9_3, f_9_4, f_9_5, fn_10, f_10_0, f_10_1, f_10_2, f_10_3, f_10_4, f_10_5, f_10_6, f_10_7, f_10_8, f_10_9, f_10_10, f_10_11, f_10_12, f_10_13, f_10_14, f_10_15, f_10_16, f_10_17, f_10_18, f_10_19, f_10_20, f_10_21, f_10_22, f_10_23, Nat.reduceLT, h0, wg_ic, ha, Int32.le_refl]
  refine hl4.trans ?_
  have hs7 : ∀ i, i < cB → qR PG G ((fun i => (46, K46_7, [some (.ref b), some (.ref b'), some (.int (nI i))], [], MK y (wr (wr μ b' D) b (kCpB C4 D i)) n s)) i) = qR PG G ((fun i => (46, K46_7, [some (.ref b), some (.ref b'), some (.int (nI i))], [], MK y (wr (wr μ b' D) b (kCpB C4 D i)) n s)) (i + 1)) := by
    intro i hi
    have ha := (hC4.k5 (kCpB_5 (D := D) i)).2.2.2.2.2.2.2.2.1
    have i1 : ¬ nI cB ≤ nI i := by rw [mI_le (by omega) (by omega)]; omega
    have i2 : ixok (nI i) 12 := ixok_n (by omega) (by decide)
    have i3 : (nI i).toNatClampNeg = i := nI_clamp (by omega)
    have i4 : i < 12 := by omega
    conv => lhs; unfold K46_7
    dsimp only
    rw [kCpB]
    unfold cI
    simp -implicitDefEqProofs only [j46_7, e49, K49_0, j49_0, x49, e41, K41_0, j41_0, x41, s_iadd, s_isub, s_imul, s_ineg, s_iand, s_ior, s_ixor, s_ishl, s_ishr, s_iushr, s_i2l, s_l2i, s_i2b, s_i2c, s_ladd, s_lsub, s_lmul, s_lneg, s_land, s_lor, s_lshl, s_lshr, s_lushr, s_lcmp, s_l2d, s_l2f, s_i2d, s_i2f, s_idiv, s_ldiv, s_irem, s_lrem, s_dcmp, s_fcmp, s_ddiv, s_fdiv, s_f2d, s_dup_i, s_dup_r, s_dup2_l, s_dup2_ir, s_pop, s_iconst, s_bipush, s_sipush, s_lconst, s_fconst, s_dconst, s_ldc, s_ldc_w, s_ldc2_w, s_iload, s_iload_n0, s_iload_n1, s_iload_n2, s_iload_n3, s_lload, s_lload_n0, s_lload_n1, s_lload_n2, s_lload_n3, s_fload, s_fload_n0, s_fload_n1, s_fload_n2, s_fload_n3, s_dload, s_dload_n0, s_dload_n1, s_dload_n2, s_dload_n3, s_aload, s_aload_n0, s_aload_n1, s_aload_n2, s_aload_n3, s_istore, s_istore_n0, s_istore_n1, s_istore_n2, s_istore_n3, s_lstore, s_lstore_n0, s_lstore_n1, s_lstore_n2, s_lstore_n3, s_fstore, s_fstore_n0, s_fstore_n1, s_fstore_n2, s_fstore_n3, s_dstore, s_dstore_n0, s_dstore_n1, s_dstore_n2, s_dstore_n3, s_astore, s_astore_n0, s_astore_n1, s_astore_n2, s_astore_n3, s_astoreN_n, s_iinc, s_if_eq, s_if_lt, s_if_ge, s_if_gt, s_if_le, s_if_ne, s_ic_eq, s_ic_lt, s_ic_ge, s_ic_gt, s_ic_le, s_ic_ne, s_ifnn_r, s_ifnn_n, s_goto, s_nop, s_tab, s_getfield, s_putfield, s_anewarray, s_newarray, s_iaload, s_baload, s_caload, s_laload, s_daload, s_aaload, s_iastore, s_bastore, s_castore, s_lastore, s_dastore, s_aastore, s_arraylength, s_lreturn, s_freturn, s_dreturn, s_areturn, s_return, s_new, s_thr, ld_Z, ld_S, kl_Z, pd_0, pd_c, pd_n, ag_i, ag_r, ag_l, ag_n, st_Z, st_On, st_Oi, st_Or, st_Ol, st_S, s2_eq, mk_t, mk_f, mk_n, cl_v, cl_n, cl_if, vl_0, vl_1, vl_2, cv_i, cv_l, cv_d, cv_f, rf_s, qW_n, qW_i, qW_l, qW_r, qMem, x_get, x_putI, x_putL, x_ldL, x_ldI, x_ldA, x_stL, x_stI, x_isO, MK_1, MK_21, List.set_cons_zero, List.set_cons_succ, List.getElem?_cons_zero, List.getElem?_cons_succ, Option.map_some, List.tail_cons, i64_32, Nat.zero_add, Nat.reduceAdd, Nat.reduceLeDiff, Nat.le_refl, if_true, if_false, ite_true, ite_false, reduceIte, lnO, rfO, fn_0, f_0_0, f_0_1, f_0_2, f_0_3, f_0_4, f_0_5, f_0_6, f_0_7, f_0_8, f_0_9, f_0_10, f_0_11, f_0_12, f_0_13, f_0_14, fn_1, f_1_0, f_1_1, f_1_2, f_1_3, f_1_4, fn_2, f_2_0, f_2_1, f_2_2, f_2_3, f_2_4, f_2_5, fn_3, f_3_0, f_3_1, f_3_2, f_3_3, fn_4, f_4_0, f_4_1, f_4_2, f_4_3, f_4_4, f_4_5, fn_5, f_5_0, f_5_1, f_5_2, fn_6, f_6_0, f_6_1, f_6_2, fn_7, f_7_0, f_7_1, f_7_2, f_7_3, f_7_4, fn_8, f_8_0, f_8_1, f_8_2, f_8_3, f_8_4, f_8_5, f_8_6, f_8_7, fn_9, f_9_0, f_9_1, f_9_2, f_9_3, f_9_4, f_9_5, fn_10, f_10_0, f_10_1, f_10_2, f_10_3, f_10_4, f_10_5, f_10_6, f_10_7, f_10_8, f_10_9, f_10_10, f_10_11, f_10_12, f_10_13, f_10_14, f_10_15, f_10_16, f_10_17, f_10_18, f_10_19, f_10_20, f_10_21, f_10_22, f_10_23, Nat.reduceLT, c49, c41, h0, h6, g0, g6, h12 i i4, g12 i i4, o0, o29 _ _ i4, wg_bc, ha, i1, i2, i3, gB0 i4, gB1 i4, gB2 i4, gB3 i4, gB4 i4, sB0 i4, sB1 i4, sB2 i4, sB3 i4, sB4 i4, rfs_lt i4, mI_inc]
  refine (lp hs7 0 (Nat.zero_le _)).trans ?_
  have hC5 := hC4.k5 (kCpB_5 (D := D) cB)
  generalize kCpB C4 D cB = C5 at hC5
  have ha := hC5.2.2.2.2.2.2.2.2.1
  have q191 : ∀ j, j < 200 → wr μ b' D (b' + 8) j = D (191 + j) := fun j hj => wg_log hj
  unfold kCpL
  rw [← cpR_eq q191]
  unfold cI
  simp -implicitDefEqProofs only [K46_7, K46_8, j46_8, e50, K50_0, j50_0, x50, s_iadd, s_isub, s_imul, s_ineg, s_iand, s_ior, s_ixor, s_ishl, s_ishr, s_iushr, s_i2l, s_l2i, s_i2b, s_i2c, s_ladd, s_lsub, s_lmul, s_lneg, s_land, s_lor, s_lshl, s_lshr, s_lushr, s_lcmp, s_l2d, s_l2f, s_i2d, s_i2f, s_idiv, s_ldiv, s_irem, s_lrem, s_dcmp, s_fcmp, s_ddiv, s_fdiv, s_f2d, s_dup_i, s_dup_r, s_dup2_l, s_dup2_ir, s_pop, s_iconst, s_bipush, s_sipush, s_lconst, s_fconst, s_dconst, s_ldc, s_ldc_w, s_ldc2_w, s_iload, s_iload_n0, s_iload_n1, s_iload_n2, s_iload_n3, s_lload, s_lload_n0, s_lload_n1, s_lload_n2, s_lload_n3, s_fload, s_fload_n0, s_fload_n1, s_fload_n2, s_fload_n3, s_dload, s_dload_n0, s_dload_n1, s_dload_n2, s_dload_n3, s_aload, s_aload_n0, s_aload_n1, s_aload_n2, s_aload_n3, s_istore, s_istore_n0, s_istore_n1, s_istore_n2, s_istore_n3, s_lstore, s_lstore_n0, s_lstore_n1, s_lstore_n2, s_lstore_n3, s_fstore, s_fstore_n0, s_fstore_n1, s_fstore_n2, s_fstore_n3, s_dstore, s_dstore_n0, s_dstore_n1, s_dstore_n2, s_dstore_n3, s_astore, s_astore_n0, s_astore_n1, s_astore_n2, s_astore_n3, s_astoreN_n, s_iinc, s_if_eq, s_if_lt, s_if_ge, s_if_gt, s_if_le, s_if_ne, s_ic_eq, s_ic_lt, s_ic_ge, s_ic_gt, s_ic_le, s_ic_ne, s_ifnn_r, s_ifnn_n, s_goto, s_nop, s_tab, s_getfield, s_putfield, s_anewarray, s_newarray, s_iaload, s_baload, s_caload, s_laload, s_daload, s_aaload, s_iastore, s_bastore, s_castore, s_lastore, s_dastore, s_aastore, s_arraylength, s_lreturn, s_freturn, s_dreturn, s_areturn, s_return, s_new, s_thr, ld_Z, ld_S, kl_Z, pd_0, pd_c, pd_n, ag_i, ag_r, ag_l, ag_n, st_Z, st_On, st_Oi, st_Or, st_Ol, st_S, s2_eq, mk_t, mk_f, mk_n, cl_v, cl_n, cl_if, vl_0, vl_1, vl_2, cv_i, cv_l, cv_d, cv_f, rf_s, qW_n, qW_i, qW_l, qW_r, qMem, x_get, x_putI, x_putL, x_ldL, x_ldI, x_ldA, x_stL, x_stI, x_isO, MK_1, MK_21, List.set_cons_zero, List.set_cons_succ, List.getElem?_cons_zero, List.getElem?_cons_succ, Option.map_some, List.tail_cons, i64_32, Nat.zero_add, Nat.reduceAdd, Nat.reduceLeDiff, Nat.le_refl, if_true, if_false, ite_true, ite_false, reduceIte, lnO, rfO, fn_0, f_0_0, f_0_1, f_0_2, f_0_3, f_0_4, f_0_5, f_0_6, f_0_7, f_0_8, f_0_9, f_0_10, f_0_11, f_0_12, f_0_13, f_0_14, fn_1, f_1_0, f_1_1, f_1_2, f_1_3, f_1_4, fn_2, f_2_0, f_2_1, f_2_2, f_2_3, f_2_4, f_2_5, fn_3, f_3_0, f_3_1, f_3_2, f_3_3, fn_4, f_4_0, f_4_1, f_4_2, f_4_3, f_4_4, f_4_5, fn_5, f_5_0, f_5_1, f_5_2, fn_6, f_6_0, f_6_1, f_6_2, fn_7, f_7_0, f_7_1, f_7_2, f_7_3, f_7_4, fn_8, f_8_0, f_8_1, f_8_2, f_8_3, f_8_4, f_8_5, f_8_6, f_8_7, fn_9, f_9_0, f_9_1, f_9_2, f_9_3, f_9_4, f_9_5, fn_10, f_10_0, f_10_1, f_10_2, f_10_3, f_10_4, f_10_5, f_10_6, f_10_7, f_10_8, f_10_9, f_10_10, f_10_11, f_10_12, f_10_13, f_10_14, f_10_15, f_10_16, f_10_17, f_10_18, f_10_19, f_10_20, f_10_21, f_10_22, f_10_23, Nat.reduceLT, c50, s_cpy, x_cp200, h0, h7, h8, g0, g7, g8, a71, o0, o7, o8, a8, ne_eq, not_false_eq_true, wg_bc, ha, Int32.le_refl, wg_lc, ws_lc, wg_ll, ws_ll, ws_cp8]
end CP
