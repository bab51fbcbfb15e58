/-! ===== A call of the class beside the model's, 10: quotients ===== -/
section OPF
variable {G : qG} {y : Nat → Option qSh} {μ ν : qMu} {X M k n s N a e f i b p e0 c : Nat} {C D : Row} {cd : Nat → Int64} {kd cm mm : Nat} {ca ma : List Value} {C' D' : Row} {v' : Value} {E : Nat} {cA cE cF cI' cB : Nat}
theorem fp_rr {f : Jvm.FP.Core.Fmt} {s : Bool} {A B : Nat} {e : Int} : Jvm.FP.Core.roundRatio f s A B e ≠ .nan := by
  unfold Jvm.FP.Core.roundRatio
  split
  · exact fun h => by cases h
  · unfold Jvm.FP.Core.roundAt Jvm.FP.Core.settle Jvm.FP.Core.bound
    split
    · split
      · exact fun h => by cases h
      · exact fun h => by cases h
    · split
      · exact fun h => by cases h
      · exact fun h => by cases h
/-- a whole number that needs no rounding -/
theorem fp_int {f : Jvm.FP.Core.Fmt} (hf : Jvm.FP.Core.Good f) (h1 : f.qmin ≤ -((f.p : Int) - 1)) (h2 : 0 ≤ f.qmax) {j : Int} (hj : 1 ≤ j) (hj2 : j.toNat < 2 ^ f.p) : ∃ c q, c ≠ 0 ∧ Jvm.FP.Core.round f (Jvm.FP.Core.ofInt j) = .fin false c q := by
  obtain ⟨hw, hp⟩ := hf
  have n0 : j.natAbs ≠ 0 := by omega
  have l1 := Nat.log2_self_le n0
  have l2 : j.natAbs < 2 ^ (j.natAbs.log2 + 1) := Nat.lt_log2_self
  have hL : j.natAbs.log2 < f.p := (Nat.log2_lt n0).mpr (by omega)
  have hf' : Jvm.FP.Core.Good f := ⟨hw, hp⟩
  generalize hLL : j.natAbs.log2 = L at *
  have e1 : 2 ^ (L + 1) * 2 ^ (f.p - 1 - L) = 2 ^ f.p := by rw [← Nat.pow_add]; congr 1; omega
  have e2 : 2 ^ L * 2 ^ (f.p - 1 - L) = 2 ^ (f.p - 1) := by rw [← Nat.pow_add]; congr 1; omega
  have c1 : j.natAbs * 2 ^ (f.p - 1 - L) < 2 ^ f.p := by
    rw [← e1]
    exact Nat.mul_lt_mul_of_pos_right l2 (Nat.two_pow_pos _)
  have c2 : 2 ^ (f.p - 1) ≤ j.natAbs * 2 ^ (f.p - 1 - L) := by
    rw [← e2]
    exact Nat.mul_le_mul_right _ l1
  refine ⟨j.natAbs * 2 ^ (f.p - 1 - L), -((f.p - 1 - L : Nat) : Int), ?_, ?_⟩
  · have := Nat.two_pow_pos (f.p - 1)
    omega
  · unfold Jvm.FP.Core.ofInt
    rw [decide_eq_false (by omega)]
    show Jvm.FP.Core.roundRatio f false j.natAbs 1 0 = _
    refine Jvm.FP.Core.roundRatio_exact hf' (by decide) ⟨c1, by omega, by omega, Or.inr c2⟩ ?_
    rw [show (0 - -((f.p - 1 - L : Nat) : Int)).toNat = f.p - 1 - L by omega, show (-((f.p - 1 - L : Nat) : Int) - 0).toNat = 0 by omega]
    rw [Nat.pow_zero, Nat.mul_one, Nat.mul_one]
theorem fp_q {f : Jvm.FP.Core.Fmt} {j : Int} {c : Nat} {q : Int} (hc : c ≠ 0) : Jvm.FP.Core.quotient f (Jvm.FP.Core.round f (Jvm.FP.Core.ofInt j)) (.fin false c q) ≠ .nan := by
  have h : Jvm.FP.Core.round f (Jvm.FP.Core.ofInt j) ≠ .nan := fp_rr
  cases hX : Jvm.FP.Core.round f (Jvm.FP.Core.ofInt j) with
  | nan => exact absurd hX h
  | inf s => exact fun h => by cases h
  | fin s c' q' =>
    show (if c = 0 then (if c' = 0 then Jvm.FP.Core.Datum.nan else .inf (s != false)) else Jvm.FP.Core.roundRatio f (s != false) c' c (q' - q)) ≠ .nan
    rw [if_neg hc]
    exact fp_rr
/-- the bits of what is a number -/
theorem fp_enc {f : Jvm.FP.Core.Fmt} (hf : Jvm.FP.Core.Good f) {d : Jvm.FP.Core.Datum} (hd : Jvm.FP.Core.fits f d) (hn : d ≠ .nan) : ∃ s m, m ≤ (f.exps - 1) * f.tails ∧ Jvm.FP.Core.encode f d = Bool.toNat s * (f.exps * f.tails) + m := by
  have t0 := Jvm.FP.Core.tails_pos f
  have t1 := Jvm.FP.Core.two_tails hf
  have t2 := Jvm.FP.Core.emax_exps hf
  have t3 := Jvm.FP.Core.qmax_qmin f
  have t4 := Jvm.FP.Core.emax_pos hf
  have e0 : ∀ (s : Bool) x t, Jvm.FP.Core.assemble f s x t = s.toNat * (f.exps * f.tails) + (x * f.tails + t) := fun s x t => by
    unfold Jvm.FP.Core.assemble
    rw [Nat.add_mul, Nat.mul_assoc, Nat.add_assoc]
  cases d with
  | nan => exact absurd rfl hn
  | inf s => exact ⟨s, _, Nat.le_refl _, by show Jvm.FP.Core.assemble f s (f.exps - 1) 0 = _; rw [e0, Nat.add_zero]⟩
  | fin s c q =>
    obtain ⟨h1, h2, h3, h4⟩ := hd
    show ∃ s' m, m ≤ _ ∧ (if c < f.tails then Jvm.FP.Core.assemble f s 0 c else Jvm.FP.Core.assemble f s ((q - f.qmin).toNat + 1) (c - f.tails)) = _
    split
    · rename_i h
      refine ⟨s, 0 * f.tails + c, ?_, e0 _ _ _⟩
      have : 1 * f.tails ≤ (f.exps - 1) * f.tails := Nat.mul_le_mul_right _ (by omega)
      omega
    · rename_i h
      refine ⟨s, _, ?_, e0 _ _ _⟩
      have h5 : (q - f.qmin).toNat + 1 + 1 ≤ f.exps - 1 := by omega
      have h6 := Nat.mul_le_mul_right f.tails h5
      rw [Nat.add_mul _ 1, Nat.one_mul] at h6
      omega
theorem nnD_ok {x d : Int64} (hd : 1 ≤ d.toInt ∧ d.toInt ≤ 2 ^ 40) : nnD (FP.l2d x) (FP.l2d d) := by
  obtain ⟨c, q, hc, hq⟩ := fp_int (f := Jvm.FP.Core.b64) Jvm.FP.Core.good_b64 (by decide) (by decide) hd.1 (by show d.toInt.toNat < 2 ^ 53; omega)
  have v1 := Jvm.FP.Core.val64_l2d x
  have v2 := Jvm.FP.Core.val64_l2d d
  rw [hq] at v2
  have hn := fp_q (f := Jvm.FP.Core.b64) (j := x.toInt) (q := q) hc
  obtain ⟨s, w, hw, he⟩ := fp_enc Jvm.FP.Core.good_b64 (Jvm.FP.Core.quotient_fits Jvm.FP.Core.good_b64 (Jvm.FP.Core.round Jvm.FP.Core.b64 (Jvm.FP.Core.ofInt x.toInt)) (.fin false c q)) hn
  unfold nnD
  have ed : FP.ddiv (FP.l2d x) (FP.l2d d) = UInt64.ofNat (Jvm.FP.Core.encode Jvm.FP.Core.b64 (Jvm.FP.Core.quotient Jvm.FP.Core.b64 (Jvm.FP.Core.round Jvm.FP.Core.b64 (Jvm.FP.Core.ofInt x.toInt)) (.fin false c q))) := by
    show UInt64.ofNat (Jvm.FP.Core.encode Jvm.FP.Core.b64 (Jvm.FP.Core.quotient Jvm.FP.Core.b64 (Jvm.FP.Core.val64 (Jvm.FP.Core.l2d x)) (Jvm.FP.Core.val64 (Jvm.FP.Core.l2d d)))) = _
    rw [v1, v2]
  rw [ed, he]
  rw [show Jvm.FP.Core.b64.exps * Jvm.FP.Core.b64.tails = 2 ^ 63 by decide]
  rw [show (Jvm.FP.Core.b64.exps - 1) * Jvm.FP.Core.b64.tails = 0x7ff0000000000000 by decide] at hw
  rw [UInt64.le_iff_toNat_le, UInt64.toNat_and, show (0x7fffffffffffffff : UInt64).toNat = 2 ^ 63 - 1 by decide, Nat.and_two_pow_sub_one_eq_mod, UInt64.toNat_ofNat', show (0x7ff0000000000000 : UInt64).toNat = 0x7ff0000000000000 by decide]
  cases s
  · simp only [Bool.toNat_false]; omega
  · simp only [Bool.toNat_true]; omega
theorem nnF_ok {x d : Int64} (hd : 1 ≤ d.toInt ∧ d.toInt ≤ 1000000) : nnF (FP.l2f x) (FP.l2f d) := by
  obtain ⟨c, q, hc, hq⟩ := fp_int (f := Jvm.FP.Core.b32) Jvm.FP.Core.good_b32 (by decide) (by decide) hd.1 (by show d.toInt.toNat < 2 ^ 24; omega)
  have v1 := Jvm.FP.Core.val32_l2f x
  have v2 := Jvm.FP.Core.val32_l2f d
  rw [hq] at v2
  have hn := fp_q (f := Jvm.FP.Core.b32) (j := x.toInt) (q := q) hc
  obtain ⟨s, w, hw, he⟩ := fp_enc Jvm.FP.Core.good_b32 (Jvm.FP.Core.quotient_fits Jvm.FP.Core.good_b32 (Jvm.FP.Core.round Jvm.FP.Core.b32 (Jvm.FP.Core.ofInt x.toInt)) (.fin false c q)) hn
  unfold nnF
  have ed : FP.fdiv (FP.l2f x) (FP.l2f d) = UInt32.ofNat (Jvm.FP.Core.encode Jvm.FP.Core.b32 (Jvm.FP.Core.quotient Jvm.FP.Core.b32 (Jvm.FP.Core.round Jvm.FP.Core.b32 (Jvm.FP.Core.ofInt x.toInt)) (.fin false c q))) := by
    show UInt32.ofNat (Jvm.FP.Core.encode Jvm.FP.Core.b32 (Jvm.FP.Core.quotient Jvm.FP.Core.b32 (Jvm.FP.Core.val32 (Jvm.FP.Core.l2f x)) (Jvm.FP.Core.val32 (Jvm.FP.Core.l2f d)))) = _
    rw [v1, v2]
  rw [ed, he]
  rw [show Jvm.FP.Core.b32.exps * Jvm.FP.Core.b32.tails = 2 ^ 31 by decide]
  rw [show (Jvm.FP.Core.b32.exps - 1) * Jvm.FP.Core.b32.tails = 0x7f800000 by decide] at hw
  rw [UInt32.le_iff_toNat_le, UInt32.toNat_and, show (0x7fffffff : UInt32).toNat = 2 ^ 31 - 1 by decide, Nat.and_two_pow_sub_one_eq_mod, UInt32.toNat_ofNat', show (0x7f800000 : UInt32).toNat = 0x7f800000 by decide]
  cases s
  · simp only [Bool.toNat_false]; omega
  · simp only [Bool.toNat_true]; omega
theorem enc64 {d : Jvm.FP.Core.Datum} (hd : Jvm.FP.Core.fits Jvm.FP.Core.b64 d) (hn : d ≠ .nan) : UInt64.ofNat (Jvm.FP.Core.encode Jvm.FP.Core.b64 d) &&& 0x7fffffffffffffff ≤ 0x7ff0000000000000 := by
  obtain ⟨s, w, hw, he⟩ := fp_enc Jvm.FP.Core.good_b64 hd hn
  rw [he]
  rw [show Jvm.FP.Core.b64.exps * Jvm.FP.Core.b64.tails = 2 ^ 63 by decide]
  rw [show (Jvm.FP.Core.b64.exps - 1) * Jvm.FP.Core.b64.tails = 0x7ff0000000000000 by decide] at hw
  rw [UInt64.le_iff_toNat_le, UInt64.toNat_and, show (0x7fffffffffffffff : UInt64).toNat = 2 ^ 63 - 1 by decide, Nat.and_two_pow_sub_one_eq_mod, UInt64.toNat_ofNat', show (0x7ff0000000000000 : UInt64).toNat = 0x7ff0000000000000 by decide]
  cases s
  · simp only [Bool.toNat_false]; omega
  · simp only [Bool.toNat_true]; omega
theorem f2d_ok {v : UInt32} (h : Jvm.FP.Core.val32 v ≠ .nan) : vk (.float v) = 3 := by
  refine if_pos ?_
  have h1 : Jvm.FP.Core.fIsNaN v = false := decide_eq_false h
  unfold FP.f2d
  rw [h1]
  rw [if_neg (by decide)]
  show UInt64.ofNat (Jvm.FP.Core.encode Jvm.FP.Core.b64 (Jvm.FP.Core.round Jvm.FP.Core.b64 (Jvm.FP.Core.val32 v))) &&& _ ≤ _
  refine enc64 (Jvm.FP.Core.round_fits Jvm.FP.Core.good_b64 _) ?_
  cases hX : Jvm.FP.Core.val32 v with
  | nan => exact absurd hX h
  | inf s => exact fun h => by cases h
  | fin s c q => exact fp_rr
theorem fq_ok {x d : Int64} (hd : 1 ≤ d.toInt ∧ d.toInt ≤ 1000000) : vk (.float (FP.fdiv (FP.l2f x) (FP.l2f d))) = 3 := by
  obtain ⟨c, q, hc, hq⟩ := fp_int (f := Jvm.FP.Core.b32) Jvm.FP.Core.good_b32 (by decide) (by decide) hd.1 (by show d.toInt.toNat < 2 ^ 24; omega)
  refine f2d_ok ?_
  show Jvm.FP.Core.val32 (Jvm.FP.Core.fdiv (Jvm.FP.Core.l2f x) (Jvm.FP.Core.l2f d)) ≠ .nan
  rw [Jvm.FP.Core.val32_fdiv, Jvm.FP.Core.val32_l2f, Jvm.FP.Core.val32_l2f, hq]
  exact fp_q hc
theorem i2d_l {x : Int64} (h : -2 ^ 31 ≤ x.toInt ∧ x.toInt < 2 ^ 31) : FP.i2d x.toInt32 = FP.l2d x := by
  show UInt64.ofNat (Jvm.FP.Core.fromInt Jvm.FP.Core.b64 x.toInt32.toInt) = UInt64.ofNat (Jvm.FP.Core.fromInt Jvm.FP.Core.b64 x.toInt)
  rw [to32 h.1 h.2]
theorem i2f_l {x : Int64} (h : -2 ^ 31 ≤ x.toInt ∧ x.toInt < 2 ^ 31) : FP.i2f x.toInt32 = FP.l2f x := by
  show UInt32.ofNat (Jvm.FP.Core.fromInt Jvm.FP.Core.b32 x.toInt32.toInt) = UInt32.ofNat (Jvm.FP.Core.fromInt Jvm.FP.Core.b32 x.toInt)
  rw [to32 h.1 h.2]
theorem t147n (hE : EL y X) (hC : Ct C cA cE cF cI' cB) {x : Int32} (hx : ¬ inR x (C 2)) : qR PG G (qEntry PG 147 [.ref X, .int x] (MK y (wr μ (X + 1) C) n s)) = exc 102 y (wr μ (X + 1) C) n s := by
  obtain ⟨h0, h1, -, h3⟩ := el_o hE
  have hB := hE.2.1
  have g0 := t86 (G := G) (μ := μ) (n := n) (s := s) hE hC (x := x)
  rw [if_neg hx] at g0
  unfold exc at g0 ⊢
  simp -implicitDefEqProofs only [e147, K147_0, s_iadd, s_isub, s_imul, s_ineg, s_iand, s_ior, s_ixor, s_ishl, s_ishr, s_iushr, s_i2l, s_l2i, s_i2b, s_i2c, s_ladd, s_lsub, s_lmul, s_lneg, s_land, s_lor, s_lshl, s_lshr, s_lushr, s_lcmp, s_l2d, s_l2f, s_i2d, s_i2f, s_idiv, s_ldiv, s_irem, s_lrem, s_dcmp, s_fcmp, s_ddiv, s_fdiv, s_f2d, s_dup_i, s_dup_r, s_dup2_l, s_dup2_ir, s_pop, s_iconst, s_bipush, s_sipush, s_lconst, s_fconst, s_dconst, s_ldc, s_ldc_w, s_ldc2_w, s_iload, s_iload_n0, s_iload_n1, s_iload_n2, s_iload_n3, s_lload, s_lload_n0, s_lload_n1, s_lload_n2, s_lload_n3, s_fload, s_fload_n0, s_fload_n1, s_fload_n2, s_fload_n3, s_dload, s_dload_n0, s_dload_n1, s_dload_n2, s_dload_n3, s_aload, s_aload_n0, s_aload_n1, s_aload_n2, s_aload_n3, s_istore, s_istore_n0, s_istore_n1, s_istore_n2, s_istore_n3, s_lstore, s_lstore_n0, s_lstore_n1, s_lstore_n2, s_lstore_n3, s_fstore, s_fstore_n0, s_fstore_n1, s_fstore_n2, s_fstore_n3, s_dstore, s_dstore_n0, s_dstore_n1, s_dstore_n2, s_dstore_n3, s_astore, s_astore_n0, s_astore_n1, s_astore_n2, s_astore_n3, s_astoreN_n, s_iinc, s_if_eq, s_if_lt, s_if_ge, s_if_gt, s_if_le, s_if_ne, s_ic_eq, s_ic_lt, s_ic_ge, s_ic_gt, s_ic_le, s_ic_ne, s_ifnn_r, s_ifnn_n, s_goto, s_nop, s_tab, s_getfield, s_putfield, s_anewarray, s_newarray, s_iaload, s_baload, s_caload, s_laload, s_daload, s_aaload, s_iastore, s_bastore, s_castore, s_lastore, s_dastore, s_aastore, s_arraylength, s_lreturn, s_freturn, s_dreturn, s_areturn, s_return, s_new, s_thr, ld_Z, ld_S, kl_Z, pd_0, pd_c, pd_n, ag_i, ag_r, ag_l, ag_n, st_Z, st_On, st_Oi, st_Or, st_Ol, st_S, s2_eq, mk_t, mk_f, mk_n, cl_v, cl_n, cl_if, vl_0, vl_1, vl_2, cv_i, cv_l, cv_d, cv_f, rf_s, qW_n, qW_i, qW_l, qW_r, qMem, x_get, x_putI, x_putL, x_ldL, x_ldI, x_ldA, x_stL, x_stI, x_isO, MK_1, MK_21, List.set_cons_zero, List.set_cons_succ, List.getElem?_cons_zero, List.getElem?_cons_succ, Option.map_some, List.tail_cons, i64_32, Nat.zero_add, Nat.reduceAdd, Nat.reduceLeDiff, Nat.le_refl, if_true, if_false, ite_true, ite_false, reduceIte, lnO, rfO, fn_0, f_0_0, f_0_1, f_0_2, f_0_3, f_0_4, f_0_5, f_0_6, f_0_7, f_0_8, f_0_9, f_0_10, f_0_11, f_0_12, f_0_13, f_0_14, fn_1, f_1_0, f_1_1, f_1_2, f_1_3, f_1_4, fn_2, f_2_0, f_2_1, f_2_2, f_2_3, f_2_4, f_2_5, fn_3, f_3_0, f_3_1, f_3_2, f_3_3, fn_4, f_4_0, f_4_1, f_4_2, f_4_3, f_4_4, f_4_5, fn_5, f_5_0, f_5_1, f_5_2, fn_6, f_6_0, f_6_1, f_6_2, fn_7, f_7_0, f_7_1, f_7_2, f_7_3, f_7_4, fn_8, f_8_0, f_8_1, f_8_2, f_8_3, f_8_4, f_8_5, f_8_6, f_8_7, fn_9, f_9_0, f_9_1, f_9_2, f_9_3, f_9_4, f_9_5, fn_10, f_10_0, f_10_1, f_10_2, f_10_3, f_10_4, f_10_5, f_10_6, f_10_7, f_10_8, f_10_9, f_10_10, f_10_11, f_10_12, f_10_13, f_10_14, f_10_15, f_10_16, f_10_17, f_10_18, f_10_19, f_10_20, f_10_21, f_10_22, f_10_23, Nat.reduceLT, cv_t, x_ld3, x_ld2, x_st3, x_st2, rm_g2, rm_g3, rm_g4, rm_g5, rm_g6, rm_g7, rm_s2, rm_s3, rm_s4, rm_s5, rm_s6, rm_s7, rm_t, c86, x147, g0, h0]
theorem t270n (hM : ML y M) (hJ : J N a e f i b p D) {x : Int32} (d0 : ¬ inR x (D 2)) : qR PG G (qEntry PG 270 [.ref M, .int x] (MK y (stc μ (M + 1) D) n s)) = some (.inl (some (.float 0)), MK y (MT μ M D 1) n s) := by
  have hf6 := hJ.2.1.2.2.1
  have x0 := th_0 (G := G) (μ := μ) (D := D) (n := n) (s := s) hM (k := 1)
  rw [show Int32.toInt64 1 = 1 from rfl] at x0
  have n1 : ((1 : Int32) = 0) = False := by decide
  have q0 : qR PG G (qEntry PG 189 [.ref M, .int x, .int 2] (MK y (stc μ (M + 1) D) n s)) = some (.inl (some (.int (if inR x (D 2) then 1 else 0))), MK y (stc μ (M + 1) D) n s) := t189r hM (k := 2) (by decide) (by omega) hJ.c2
  obtain ⟨h0, h1⟩ := hM
  simp only [if_neg d0] at q0
  simp -implicitDefEqProofs only [e270, K270_0, j270_0, K270_1, j270_1, K270_2, j270_2, K270_3, j270_3, K270_4, j270_4, s_iadd, s_isub, s_imul, s_ineg, s_iand, s_ior, s_ixor, s_ishl, s_ishr, s_iushr, s_i2l, s_l2i, s_i2b, s_i2c, s_ladd, s_lsub, s_lmul, s_lneg, s_land, s_lor, s_lshl, s_lshr, s_lushr, s_lcmp, s_l2d, s_l2f, s_i2d, s_i2f, s_idiv, s_ldiv, s_irem, s_lrem, s_dcmp, s_fcmp, s_ddiv, s_fdiv, s_f2d, s_dup_i, s_dup_r, s_dup2_l, s_dup2_ir, s_pop, s_iconst, s_bipush, s_sipush, s_lconst, s_fconst, s_dconst, s_ldc, s_ldc_w, s_ldc2_w, s_iload, s_iload_n0, s_iload_n1, s_iload_n2, s_iload_n3, s_lload, s_lload_n0, s_lload_n1, s_lload_n2, s_lload_n3, s_fload, s_fload_n0, s_fload_n1, s_fload_n2, s_fload_n3, s_dload, s_dload_n0, s_dload_n1, s_dload_n2, s_dload_n3, s_aload, s_aload_n0, s_aload_n1, s_aload_n2, s_aload_n3, s_istore, s_istore_n0, s_istore_n1, s_istore_n2, s_istore_n3, s_lstore, s_lstore_n0, s_lstore_n1, s_lstore_n2, s_lstore_n3, s_fstore, s_fstore_n0, s_fstore_n1, s_fstore_n2, s_fstore_n3, s_dstore, s_dstore_n0, s_dstore_n1, s_dstore_n2, s_dstore_n3, s_astore, s_astore_n0, s_astore_n1, s_astore_n2, s_astore_n3, s_astoreN_n, s_iinc, s_if_eq, s_if_lt, s_if_ge, s_if_gt, s_if_le, s_if_ne, s_ic_eq, s_ic_lt, s_ic_ge, s_ic_gt, s_ic_le, s_ic_ne, s_ifnn_r, s_ifnn_n, s_goto, s_nop, s_tab, s_getfield, s_putfield, s_anewarray, s_newarray, s_iaload, s_baload, s_caload, s_laload, s_daload, s_aaload, s_iastore, s_bastore, s_castore, s_lastore, s_dastore, s_aastore, s_arraylength, s_lreturn, s_freturn, s_dreturn, s_areturn, s_return, s_new, s_thr, ld_Z, ld_S, kl_Z, pd_0, pd_c, pd_n, ag_i, ag_r, ag_l, ag_n, st_Z, st_On, st_Oi, st_Or, st_Ol, st_S, s2_eq, mk_t, mk_f, mk_n, cl_v, cl_n, cl_if, vl_0, vl_1, vl_2, cv_i, cv_l, cv_d, cv_f, rf_s, qW_n, qW_i, qW_l, qW_r, qMem, x_get, x_putI, x_putL, x_ldL, x_ldI, x_ldA, x_stL, x_stI, x_isO, MK_1, MK_21, List.set_cons_zero, List.set_cons_succ, List.getElem?_cons_zero, List.getElem?_cons_succ, Option.map_some, List.tail_cons, i64_32, Nat.zero_add, Nat.reduceAdd, Nat.reduceLeDiff, Nat.le_refl, if_true, if_false, ite_true, ite_false, reduceIte, lnO, rfO, fn_0, f_0_0, f_0_1, f_0_2, f_0_3, f_0_4, f_0_5, f_0_6, f_0_7, f_0_8, f_0_9, f_0_10, f_0_11, f_0_12, f_0_13, f_0_14, fn_1, f_1_0, f_1_1, f_1_2, f_1_3, f_1_4, fn_2, f_2_0, f_2_1, f_2_2, f_2_3, f_2_4, f_2_5, fn_3, f_3_0, f_3_1, f_3_2, f_3_3, fn_4, f_4_0, f_4_1, f_4_2, f_4_3, f_4_4, f_4_5, fn_5, f_5_0, f_5_1, f_5_2, fn_6, f_6_0, f_6_1, f_6_2, fn_7, f_7_0, f_7_1, f_7_2, f_7_3, f_7_4, fn_8, f_8_0, f_8_1, f_8_2, f_8_3, f_8_4, f_8_5, f_8_6, f_8_7, fn_9, f_9_0, f_9_1, f_9_2, f_9_3, f_9_4, f_9_5, fn_10, f_10_0, f_10_1, f_10_2, f_10_3, f_10_4, f_10_5, f_10_6, f_10_7, f_10_8, f_10_9, f_10_10, f_10_11, f_10_12, f_10_13, f_10_14, f_10_15, f_10_16, f_10_17, f_10_18, f_10_19, f_10_20, f_10_21, f_10_22, f_10_23, Nat.reduceLT, cv_t, x_ld3, x_ld2, x_st3, x_st2, rm_g2, rm_g3, rm_g4, rm_g5, rm_g6, rm_g7, rm_s2, rm_s3, rm_s4, rm_s5, rm_s6, rm_s7, rm_t, c189, c185, q0, x0, h0, n1]
theorem op_146 (hS : SH y X M) {x : Int32} : OpI G y X M cdB 2 146 [.int x] 269 [.int x] := by
  intro k μ n s hk hI
  obtain ⟨hE, hF, hDL, hM, hMA, hX⟩ := hS
  have hI' := hI
  obtain ⟨⟨a, e, f, i, b, p, hJ, hA, hd⟩, -, -⟩ := hI'
  have hO := hA.ct hJ
  have d6 := hJ.d6
  have g6 := (hA.d6 hJ).1
  have hc := hJ.2.1
  unfold Jc at hc
  have ne : μ (M + 1) 6 ≠ 0 → 1 ≤ (μ (M + 1) 6).toInt ∧ (μ (M + 1) 6).toInt ≤ 2 ^ 40 := fun q => by
    have : (μ (M + 1) 6).toInt ≠ 0 := fun q2 => q (Int64.toInt_inj.mp (by rw [q2, Z0]))
    omega
  have e0 : ((μ (M + 1) 6).toInt32 = 0) = (μ (M + 1) 6 = 0) := by
    apply propext
    rw [← Int32.toInt_inj, to32 (by omega) (by omega), ← Int64.toInt_inj, Z0]
    exact Iff.rfl
  have tc := t146 (G := G) (μ := μ) (C := rd μ (X + 1)) (n := n) (s := s) hE hO.1 (x := x) (by
    rw [g6, i2d_l (by omega)]
    intro q
    exact nnD_ok (ne fun q2 => q (by rw [e0]; exact q2)))
  have tm := fun (μ1 : qMu) (n s : Nat) => t269 (G := G) (μ := μ1) (n := n) (s := s) hM hJ (x := x) (fun q => nnD_ok (ne q))
  have g1 : rd μ (X + 1) 1 = μ (M + 1) 1 := hA.g (lv_8 (by decide))
  rw [g1] at tc
  by_cases d1 : inR x (μ (M + 1) 1)
  case neg => exact lf_exm hk hX hI (tc.trans (if_pos d1)) (fun μ1 n s => (tm μ1 n s).trans (if_pos d1)) (by decide)
  replace tc := tc.trans (if_neg (not_not_intro d1))
  replace tm := fun μ1 n s => (tm μ1 n s).trans (if_neg (not_not_intro d1))
  obtain ⟨x, hx, rfl⟩ := inR_n (c := e) (by omega) hJ.c1 d1
  rw [show (nI x).toNatClampNeg = x from nI_clamp (by omega)] at tc tm
  rw [hA.g (lv_e hx (by decide)), g6, i2d_l (by omega)] at tc
  simp only [e0] at tc
  exact lf_same hk hX hI tc fun μ1 n s _ => tm μ1 n s
theorem op_147 (hS : SH y X M) {x : Int32} : OpI G y X M cdB 3 147 [.int x] 270 [.int x] := by
  intro k μ n s hk hI
  obtain ⟨hE, hF, hDL, hM, hMA, hX⟩ := hS
  have hI' := hI
  obtain ⟨⟨a, e, f, i, b, p, hJ, hA, hd⟩, -, -⟩ := hI'
  have hO := hA.ct hJ
  have hN := hJ.1
  have hc := hJ.2.1
  unfold Jc at hc
  have d6 := hJ.d6
  have g2 : rd μ (X + 1) 2 = μ (M + 1) 2 := hA.g (lv_8 (by decide))
  by_cases d1 : inR x (μ (M + 1) 2)
  case neg => exact lf_exm hk hX hI (t147n hE hO.1 (by rw [g2]; exact d1)) (fun μ1 n s => t270n hM hJ d1) (by decide) (f2d_ok (by decide))
  obtain ⟨x, hx, rfl⟩ := inR_n (c := f) (by omega) hJ.c2 d1
  have zx : (nI x).toNatClampNeg = x := nI_clamp (by omega)
  have ht : 1 ≤ (μ (M + 1) (73 + 6 * x + 1)).toInt ∧ (μ (M + 1) (73 + 6 * x + 1)).toInt ≤ 1000000 := by
    have := hJ.2.2 (73 + 6 * x + 1)
    rw [jB_F (by omega) (by decide)] at this
    simp only [Nat.reduceEqDiff, if_false, if_true, hx] at this
    exact this
  have hn := hJ.fn (q := x) (by omega)
  have k0 : rd μ (X + 1) (73 + 6 * x) = μ (M + 1) (73 + 6 * x) := hA.g (lv_f0 hx)
  have k1 : rd μ (X + 1) (73 + 6 * x + 1) = μ (M + 1) (73 + 6 * x + 1) := hA.g (lv_f hx (by decide))
  have k2 : rd μ (X + 1) (73 + 6 * x + 2) = μ (M + 1) (73 + 6 * x + 2) := hA.g (lv_f hx (by decide))
  have tc := (t147 (G := G) (μ := μ) (C := rd μ (X + 1)) (n := n) (s := s) hE hO.1 (x := nI x) (fun _ _ => by
    rw [zx, k0, k1, i2f_l (by omega)]
    exact nnF_ok ht)).trans (if_neg (not_not_intro (by rw [g2]; exact d1)))
  have tm := fun (μ1 : qMu) (n s : Nat) => (t270 (G := G) (μ := μ1) (n := n) (s := s) hM hJ (x := nI x) (fun _ _ => by
    rw [zx]
    exact nnF_ok ht)).trans (if_neg (not_not_intro d1))
  rw [zx] at tc tm
  have m2 := m1_32 (x := μ (M + 1) (73 + 6 * x + 2)) (by omega)
  rw [k0, k1, k2, i2f_l (by omega)] at tc
  simp only [m2] at tc
  refine lf_same hk hX hI tc (fun μ1 n s _ => tm μ1 n s) ?_
  split
  · exact f2d_ok (by decide)
  · split
    · exact f2d_ok (by decide)
    · exact fq_ok ht
end OPF
