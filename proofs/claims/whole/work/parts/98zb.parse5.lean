/-! ===== The model's parser, 5: envelopes ===== -/
section MPE
variable {G : qG} {y : Nat → Option qSh} {μ : qMu} {M n s L bg st a e f i b p : Nat} {P Q : PS} {D E : Row} {T : QF}
theorem rp_env (hR : RP a e f i b p D E) (he : e < 10) {w1 w2 w3 o : Int32} (h1 : 0 ≤ w1.toInt ∧ w1.toInt ≤ 1000000) (h2 : 0 ≤ w2.toInt ∧ w2.toInt ≤ 2) (h3 : 0 ≤ w3.toInt ∧ w3.toInt ≤ 1000000) (h4 : -1 ≤ o.toInt ∧ o.toInt ≤ (e : Int) - 1) :
    RP a (e + 1) f i b p (kDE D e w1 w2 w3 o) (sv (sv (sv (sv (sv E (13 + 6 * e + 1) w1.toInt64) (13 + 6 * e + 2) w2.toInt64) (13 + 6 * e + 3) w3.toInt64) (13 + 6 * e + 4) o.toInt64) 1 (nI (e + 1)).toInt64) := by
  have hf6 := hR.1.2.1.2.2.1
  have ha4 := hR.1.2.1.1
  have hi4 := hR.1.2.1.2.2.2.1
  have hb12 := hR.1.2.1.2.2.2.2.1
  obtain ⟨E1, hE1⟩ : ∃ E1, sv E (13 + 6 * e + 1) w1.toInt64 = E1 := ⟨_, rfl⟩
  obtain ⟨E2, hE2⟩ : ∃ E2, sv E1 (13 + 6 * e + 2) w2.toInt64 = E2 := ⟨_, rfl⟩
  obtain ⟨E3, hE3⟩ : ∃ E3, sv E2 (13 + 6 * e + 3) w3.toInt64 = E3 := ⟨_, rfl⟩
  obtain ⟨E4, hE4⟩ : ∃ E4, sv E3 (13 + 6 * e + 4) o.toInt64 = E4 := ⟨_, rfl⟩
  rw [hE1, hE2, hE3, hE4]
  have j0 := hR.1
  have j1 : J 1 a e f i b p E1 := by
    rw [← hE1]
    refine j0.put ?_
    rw [jB_E he (by decide)]
    simp only [Nat.reduceEqDiff, if_false, if_true]
    constructor <;> dsimp only <;> rw [Int32.toInt_toInt64] <;> omega
  have j2 : J 1 a e f i b p E2 := by
    rw [← hE2]
    refine j1.put ?_
    rw [jB_E he (by decide)]
    simp only [Nat.reduceEqDiff, if_false, if_true]
    constructor <;> dsimp only <;> rw [Int32.toInt_toInt64] <;> omega
  have j3 : J 1 a e f i b p E3 := by
    rw [← hE3]
    refine j2.put ?_
    rw [jB_E he (by decide)]
    simp only [Nat.reduceEqDiff, if_false, if_true]
    constructor <;> dsimp only <;> rw [Int32.toInt_toInt64] <;> omega
  have j4 : J 1 a e f i b p E4 := by
    rw [← hE4]
    refine j3.put ?_
    rw [jB_E he (by decide)]
    simp only [Nat.reduceEqDiff, if_false, if_true, if_neg (Nat.lt_irrefl e)]
    constructor <;> dsimp only <;> rw [Int32.toInt_toInt64] <;> omega
  have f4 : E4 (13 + 6 * e + 4) = o.toInt64 := by rw [← hE4, sv_get, if_pos rfl]
  have f3 : E4 (13 + 6 * e + 3) = w3.toInt64 := by rw [← hE4, sv_get, if_neg (by omega), ← hE3, sv_get, if_pos rfl]
  have f2 : E4 (13 + 6 * e + 2) = w2.toInt64 := by rw [← hE4, sv_get, if_neg (by omega), ← hE3, sv_get, if_neg (by omega), ← hE2, sv_get, if_pos rfl]
  have f1 : E4 (13 + 6 * e + 1) = w1.toInt64 := by rw [← hE4, sv_get, if_neg (by omega), ← hE3, sv_get, if_neg (by omega), ← hE2, sv_get, if_neg (by omega), ← hE1, sv_get, if_pos rfl]
  have fo : ∀ k, (∀ r, 0 < r → r < 5 → k ≠ 13 + 6 * e + r) → E4 k = E k := fun k hk => by
    rw [← hE4, sv_get, if_neg (hk 4 (by decide) (by decide)), ← hE3, sv_get, if_neg (hk 3 (by decide) (by decide)), ← hE2, sv_get, if_neg (hk 2 (by decide) (by decide)), ← hE1, sv_get, if_neg (hk 1 (by decide) (by decide))]
  refine ⟨?_, ?_, ?_, ?_, ?_, ?_⟩
  · refine J.upE j4 he ?_
    rw [f4, Int32.toInt_toInt64]
    exact h4
  · intro k hk
    unfold kDE kDE0
    by_cases hK : k = 1
    · rw [hK, sv_get, if_pos rfl, sv_get, if_pos rfl]
    rw [sv_get, if_neg hK, sv_get (d := E4), if_neg hK]
    by_cases hn : ∃ r, r < 6 ∧ k = 13 + 6 * e + r
    · obtain ⟨r, hr, rfl⟩ := hn
      have hr' : r = 0 ∨ r = 1 ∨ r = 2 ∨ r = 3 ∨ r = 4 ∨ r = 5 := by omega
      rcases hr' with rfl | rfl | rfl | rfl | rfl | rfl
      · simp only [sv_get, if_true]
        repeat (first | rw [if_pos (by omega)] | rw [if_neg (by omega)])
        rw [fo _ (fun r h1 h2 => by omega)]
        exact (hR.2.2.1.1 e (Nat.le_refl _) he).1.symm
      · simp only [sv_get, if_true]
        repeat (first | rw [if_pos (by omega)] | rw [if_neg (by omega)])
        rw [f1]
      · simp only [sv_get, if_true]
        repeat (first | rw [if_pos (by omega)] | rw [if_neg (by omega)])
        rw [f2]
      · simp only [sv_get, if_true]
        repeat (first | rw [if_pos (by omega)] | rw [if_neg (by omega)])
        rw [f3]
      · simp only [sv_get, if_true]
        rw [f4]
      · simp only [sv_get, if_true]
        repeat (first | rw [if_pos (by omega)] | rw [if_neg (by omega)])
        rw [fo _ (fun r h1 h2 => by omega)]
        exact (hR.2.2.1.1 e (Nat.le_refl _) he).2.symm
    · have hk2 : ∀ r, r < 6 → k ≠ 13 + 6 * e + r := fun r hr hq => hn ⟨r, hr, hq⟩
      rw [fo k (fun r _ hr => hk2 r (by omega))]
      have k0 : k ≠ 13 + 6 * e := hk2 0 (by decide)
      have k1 := hk2 1 (by decide)
      have k2 := hk2 2 (by decide)
      have k3 := hk2 3 (by decide)
      have k4 := hk2 4 (by decide)
      have k5 := hk2 5 (by decide)
      simp only [sv_get]
      rw [if_neg k4, if_neg k3, if_neg k2, if_neg k1, if_neg k5, if_neg k0]
      refine hR.2.1 k ?_
      unfold Live at hk ⊢
      omega
  · refine ⟨fun q h1 h2 => ?_, fun q h1 h2 => ?_, fun q h1 => ?_⟩
    · rw [sv_get, if_neg (by omega), sv_get, if_neg (by omega), fo _ (fun r _ hr => by omega), fo _ (fun r _ hr => by omega)]
      exact hR.2.2.1.1 q (by omega) h2
    · rw [sv_get, if_neg (by omega), sv_get, if_neg (by omega), fo _ (fun r _ hr => by omega), fo _ (fun r _ hr => by omega)]
      exact hR.2.2.1.2.1 q (by omega) h2
    · rw [sv_get, if_neg (by omega), fo _ (fun r _ hr => by omega)]
      exact hR.2.2.1.2.2 q h1
  · rw [sv_get, if_neg (by decide), fo _ (fun r _ hr => by omega)]
    exact hR.2.2.2.1
  · unfold kDE kDE0
    simp only [sv_get]
    repeat rw [if_neg (by omega)]
    exact hR.2.2.2.2.1
  · unfold kDE kDE0
    simp only [sv_get]
    repeat rw [if_neg (by omega)]
    exact hR.2.2.2.2.2
theorem skP_idem (hlt : (skP T L P).1 < L → isSp T (skP T L P).1 = false) : skP T L (skP T L P) = skP T L P := by
  show (adv (isSp T) (L - (skP T L P).1) (skP T L P).1, (skP T L P).2) = skP T L P
  rw [adv_stop]
  by_cases h : (skP T L P).1 < L
  · exact Or.inl (hlt h)
  · right; omega
theorem t171 (hM : ML y M) (hA : MA y M) (hT : HB (μ (M + 7)) T L) (hL : L ≤ 900) (hp : P.1 ≤ L) (hX : TX G y μ M) (hR : RP a e f i b p D E) (he : P.2.1 = 0) : ∃ bg' E' P', qR PG G (qEntry PG 171 [.ref M] (MK y (PQ μ M L bg st P E) n s)) = some (.inl none, MK y (PQ μ M L bg' st P' E') n s) ∧ P'.2 = (enP3 T L (nI st) P D (nI bg)).2 ∧ ((enP3 T L (nI st) P D (nI bg)).2.1 = 0 → P' = enP3 T L (nI st) P D (nI bg) ∧ ∃ a e f i b p, RP a e f i b p (enD T L (nI st) P D (nI bg)) E') := by
  have hM' := hM
  have he10 := hR.1.2.1.2.1
  have g8 : qR PG G (qEntry PG 168 [.ref M, .int 1, .int 10] (MK y (PQ μ M L bg st P E) n s)) = _ := t168 hM hA (k := 1) (m := 10) (by decide) hR.1.c1 (by omega) (by decide) he
  unfold enD enR0 enR1 enR2 enR3
  unfold enP3 enP2 enP1 enP0
  rw [hR.n1]
  have e4 : nI 10 = 10 := rfl
  rw [e4] at g8
  have hle : (roP (nI st) P (nI e) 10 (nI bg)).1 ≤ L := by rw [roP_1]; exact hp
  have hlt : (roP (nI st) P (nI e) 10 (nI bg)).2.1 = 0 → e < 10 := fun q => by
    have := (roP_e q).1
    rwa [show (10 : Int32) = nI 10 from rfl, mI_lt (by omega) (by decide)] at this
  generalize roP (nI st) P (nI e) 10 (nI bg) = R at g8 hle hlt ⊢
  obtain ⟨h0, h1⟩ := hM
  have h2 := hA.1
  have n1 : ((1 : Int32) = 0) = False := by decide
  by_cases hz : R.2.1 = 0
  rotate_left
  · rw [if_neg hz] at g8
    have e1 : ∀ lo hi, nmP T L (nI st) R lo hi = R := fun lo hi => by unfold nmP; rw [if_neg hz]
    simp only [e1]
    have eo : ouP T L (nI st) R (nI e) = wdP T L (skP T L R) := by unfold ouP; rw [if_pos (Or.inl hz)]
    rw [eo]
    refine ⟨bg, E, R, ?_, rfl, fun q => absurd q hz⟩
    simp -implicitDefEqProofs only [e171, K171_0, j171_0, K171_1, j171_1, K171_2, j171_2, K171_3, j171_3, s_iadd, s_isub, s_imul, s_ineg, s_iand, s_ior, s_ixor, s_ishl, s_ishr, s_iushr, s_i2l, s_l2i, s_i2b, s_i2c, s_ladd, s_lsub, s_lmul, s_lneg, s_land, s_lor, s_lshl, s_lshr, s_lushr, s_lcmp, s_l2d, s_l2f, s_i2d, s_i2f, s_idiv, s_ldiv, s_irem, s_lrem, s_dcmp, s_fcmp, s_ddiv, s_fdiv, s_f2d, s_dup_i, s_dup_r, s_dup2_l, s_dup2_ir, s_pop, s_iconst, s_bipush, s_sipush, s_lconst, s_fconst, s_dconst, s_ldc, s_ldc_w, s_ldc2_w, s_iload, s_iload_n0, s_iload_n1, s_iload_n2, s_iload_n3, s_lload, s_lload_n0, s_lload_n1, s_lload_n2, s_lload_n3, s_fload, s_fload_n0, s_fload_n1, s_fload_n2, s_fload_n3, s_dload, s_dload_n0, s_dload_n1, s_dload_n2, s_dload_n3, s_aload, s_aload_n0, s_aload_n1, s_aload_n2, s_aload_n3, s_istore, s_istore_n0, s_istore_n1, s_istore_n2, s_istore_n3, s_lstore, s_lstore_n0, s_lstore_n1, s_lstore_n2, s_lstore_n3, s_fstore, s_fstore_n0, s_fstore_n1, s_fstore_n2, s_fstore_n3, s_dstore, s_dstore_n0, s_dstore_n1, s_dstore_n2, s_dstore_n3, s_astore, s_astore_n0, s_astore_n1, s_astore_n2, s_astore_n3, s_astoreN_n, s_iinc, s_if_eq, s_if_lt, s_if_ge, s_if_gt, s_if_le, s_if_ne, s_ic_eq, s_ic_lt, s_ic_ge, s_ic_gt, s_ic_le, s_ic_ne, s_ifnn_r, s_ifnn_n, s_goto, s_nop, s_tab, s_getfield, s_putfield, s_anewarray, s_newarray, s_iaload, s_baload, s_caload, s_laload, s_daload, s_aaload, s_iastore, s_bastore, s_castore, s_lastore, s_dastore, s_aastore, s_arraylength, s_lreturn, s_freturn, s_dreturn, s_areturn, s_return, s_new, s_thr, ld_Z, ld_S, kl_Z, pd_0, pd_c, pd_n, ag_i, ag_r, ag_l, ag_n, st_Z, st_On, st_Oi, st_Or, st_Ol, st_S, s2_eq, mk_t, mk_f, mk_n, cl_v, cl_n, cl_if, vl_0, vl_1, vl_2, cv_i, cv_l, cv_d, cv_f, rf_s, qW_n, qW_i, qW_l, qW_r, qMem, x_get, x_putI, x_putL, x_ldL, x_ldI, x_ldA, x_stL, x_stI, x_isO, MK_1, MK_21, List.set_cons_zero, List.set_cons_succ, List.getElem?_cons_zero, List.getElem?_cons_succ, Option.map_some, List.tail_cons, i64_32, Nat.zero_add, Nat.reduceAdd, Nat.reduceLeDiff, Nat.le_refl, if_true, if_false, ite_true, ite_false, reduceIte, lnO, rfO, fn_0, f_0_0, f_0_1, f_0_2, f_0_3, f_0_4, f_0_5, f_0_6, f_0_7, f_0_8, f_0_9, f_0_10, f_0_11, f_0_12, f_0_13, f_0_14, fn_1, f_1_0, f_1_1, f_1_2, f_1_3, f_1_4, fn_2, f_2_0, f_2_1, f_2_2, f_2_3, f_2_4, f_2_5, fn_3, f_3_0, f_3_1, f_3_2, f_3_3, fn_4, f_4_0, f_4_1, f_4_2, f_4_3, f_4_4, f_4_5, fn_5, f_5_0, f_5_1, f_5_2, fn_6, f_6_0, f_6_1, f_6_2, fn_7, f_7_0, f_7_1, f_7_2, f_7_3, f_7_4, fn_8, f_8_0, f_8_1, f_8_2, f_8_3, f_8_4, f_8_5, f_8_6, f_8_7, fn_9, f_9_0, f_9_1, f_9_2, f_9_3, f_9_4, f_9_5, fn_10, f_10_0, f_10_1, f_10_2, f_10_3, f_10_4, f_10_5, f_10_6, f_10_7, f_10_8, f_10_9, f_10_10, f_10_11, f_10_12, f_10_13, f_10_14, f_10_15, f_10_16, f_10_17, f_10_18, f_10_19, f_10_20, f_10_21, f_10_22, f_10_23, Nat.reduceLT, cv_t, x_ld3, x_ld2, x_st3, x_st2, rm_g2, rm_g3, rm_g4, rm_g5, rm_g6, rm_g7, rm_s2, rm_s3, rm_s4, rm_s5, rm_s6, rm_s7, rm_t, c168, g8, h0, n1]
  rw [if_pos hz] at g8
  replace hlt := hlt hz
  have e1 := nI_m1 (k := e) (by omega)
  have tx : ∀ {h}, qR PG G (qEntry PG 172 [.int (nI e), .int 0] h) = some (.inl (some (.int (nI (13 + 6 * e)))), h) := fun {h} => t172 (k := 0)
  obtain ⟨bg1, g1⟩ := t170 (G := G) (μ := μ) (bg := bg) (st := st) (E := E) (n := n) (s := s) hM' hA hT hL hle (lo := 0) (hi := 1000000) (by decide) (by decide)
  have g1 : qR PG G (qEntry PG 170 [.ref M, .long 0, .long 1000000] (MK y (PQ μ M L bg st R E) n s)) = _ := g1
  have hle1 : (nmP T L (nI st) R 0 1000000).1 ≤ L := nmP_le hle
  have hz1 : (nmP T L (nI st) R 0 1000000).2.1 = 0 → R.2.1 = 0 := nmP_e
  have hb1 := nmR_b (T := T) (L := L) (P := R) (lo := 0) (hi := 1000000) (sti := nI st)
  generalize hw1 : nmR T L R 0 1000000 = w1 at g1 hb1 ⊢
  generalize nmP T L (nI st) R 0 1000000 = P1 at g1 hle1 hz1 hb1 ⊢
  generalize hv1 : (if P1.2.1 = 0 then w1.toInt64 else (0 : Int32).toInt64) = v1 at g1
  obtain ⟨E1, hE1⟩ : ∃ E1, sv E (13 + 6 * e + 1) v1 = E1 := ⟨_, rfl⟩
  obtain ⟨bg2, g2⟩ := t170 (G := G) (μ := μ) (bg := bg1) (st := st) (E := E1) (n := n) (s := s) hM' hA hT hL hle1 (lo := 0) (hi := 2) (by decide) (by decide)
  have g2 : qR PG G (qEntry PG 170 [.ref M, .long 0, .long 2] (MK y (PQ μ M L bg1 st P1 E1) n s)) = _ := g2
  have hle2 : (nmP T L (nI st) P1 0 2).1 ≤ L := nmP_le hle1
  have hz2 : (nmP T L (nI st) P1 0 2).2.1 = 0 → P1.2.1 = 0 := nmP_e
  have hb2 := nmR_b (T := T) (L := L) (P := P1) (lo := 0) (hi := 2) (sti := nI st)
  generalize hw2 : nmR T L P1 0 2 = w2 at g2 hb2 ⊢
  generalize nmP T L (nI st) P1 0 2 = P2 at g2 hle2 hz2 hb2 ⊢
  generalize hv2 : (if P2.2.1 = 0 then w2.toInt64 else (0 : Int32).toInt64) = v2 at g2
  obtain ⟨E2, hE2⟩ : ∃ E2, sv E1 (13 + 6 * e + 2) v2 = E2 := ⟨_, rfl⟩
  obtain ⟨bg3, g3⟩ := t170 (G := G) (μ := μ) (bg := bg2) (st := st) (E := E2) (n := n) (s := s) hM' hA hT hL hle2 (lo := 0) (hi := 1000000) (by decide) (by decide)
  have g3 : qR PG G (qEntry PG 170 [.ref M, .long 0, .long 1000000] (MK y (PQ μ M L bg2 st P2 E2) n s)) = _ := g3
  have hle3 : (nmP T L (nI st) P2 0 1000000).1 ≤ L := nmP_le hle2
  have hz3 : (nmP T L (nI st) P2 0 1000000).2.1 = 0 → P2.2.1 = 0 := nmP_e
  have hb3 := nmR_b (T := T) (L := L) (P := P2) (lo := 0) (hi := 1000000) (sti := nI st)
  generalize hw3 : nmR T L P2 0 1000000 = w3 at g3 hb3 ⊢
  generalize nmP T L (nI st) P2 0 1000000 = P3 at g3 hle3 hz3 hb3 ⊢
  generalize hv3 : (if P3.2.1 = 0 then w3.toInt64 else (0 : Int32).toInt64) = v3 at g3
  obtain ⟨E3, hE3⟩ : ∃ E3, sv E2 (13 + 6 * e + 3) v3 = E3 := ⟨_, rfl⟩
  obtain ⟨E4, hE4⟩ : ∃ E4, sv E3 (13 + 6 * e + 4) (-1) = E4 := ⟨_, rfl⟩
  have k4 : E4 1 = (nI e).toInt64 := by rw [← hE4, sv_get, if_neg (by omega), ← hE3, sv_get, if_neg (by omega), ← hE2, sv_get, if_neg (by omega), ← hE1, sv_get, if_neg (by omega)]; exact hR.1.c1
  have i1 : ixok (nI (13 + 6 * e + 1)) 391 := ixok_n (by omega) (by decide)
  have z1 : (nI (13 + 6 * e + 1)).toNatClampNeg = 13 + 6 * e + 1 := nI_clamp (by omega)
  have i2 : ixok (nI (13 + 6 * e + 2)) 391 := ixok_n (by omega) (by decide)
  have z2 : (nI (13 + 6 * e + 2)).toNatClampNeg = 13 + 6 * e + 2 := nI_clamp (by omega)
  have i3 : ixok (nI (13 + 6 * e + 3)) 391 := ixok_n (by omega) (by decide)
  have z3 : (nI (13 + 6 * e + 3)).toNatClampNeg = 13 + 6 * e + 3 := nI_clamp (by omega)
  have i4 : ixok (nI (13 + 6 * e + 4)) 391 := ixok_n (by omega) (by decide)
  have z4 : (nI (13 + 6 * e + 4)).toNatClampNeg = 13 + 6 * e + 4 := nI_clamp (by omega)
  have iK : ixok 1 391 := by constructor <;> decide
  have zK : (1 : Int32).toNatClampNeg = 1 := rfl
  have rK : (E 1).toInt32 = nI e := by rw [hR.1.c1, i64_32]
  have pK : (nI e).toInt64 + 1 = (nI (e + 1)).toInt64 := nI_p1 (by omega)
  have fin3 : ∀ bgx Px Ex, Ex 1 = (nI e).toInt64 → qR PG G (171, K171_3, [some (.ref M), none], [], MK y (PQ μ M L bgx st Px Ex) n s) = some (.inl none, MK y (PQ μ M L bgx st Px (sv Ex 1 (nI (e + 1)).toInt64)) n s) := by
    intro bgx Px Ex hk
    simp -implicitDefEqProofs only [K171_3, s_iadd, s_isub, s_imul, s_ineg, s_iand, s_ior, s_ixor, s_ishl, s_ishr, s_iushr, s_i2l, s_l2i, s_i2b, s_i2c, s_ladd, s_lsub, s_lmul, s_lneg, s_land, s_lor, s_lshl, s_lshr, s_lushr, s_lcmp, s_l2d, s_l2f, s_i2d, s_i2f, s_idiv, s_ldiv, s_irem, s_lrem, s_dcmp, s_fcmp, s_ddiv, s_fdiv, s_f2d, s_dup_i, s_dup_r, s_dup2_l, s_dup2_ir, s_pop, s_iconst, s_bipush, s_sipush, s_lconst, s_fconst, s_dconst, s_ldc, s_ldc_w, s_ldc2_w, s_iload, s_iload_n0, s_iload_n1, s_iload_n2, s_iload_n3, s_lload, s_lload_n0, s_lload_n1, s_lload_n2, s_lload_n3, s_fload, s_fload_n0, s_fload_n1, s_fload_n2, s_fload_n3, s_dload, s_dload_n0, s_dload_n1, s_dload_n2, s_dload_n3, s_aload, s_aload_n0, s_aload_n1, s_aload_n2, s_aload_n3, s_istore, s_istore_n0, s_istore_n1, s_istore_n2, s_istore_n3, s_lstore, s_lstore_n0, s_lstore_n1, s_lstore_n2, s_lstore_n3, s_fstore, s_fstore_n0, s_fstore_n1, s_fstore_n2, s_fstore_n3, s_dstore, s_dstore_n0, s_dstore_n1, s_dstore_n2, s_dstore_n3, s_astore, s_astore_n0, s_astore_n1, s_astore_n2, s_astore_n3, s_astoreN_n, s_iinc, s_if_eq, s_if_lt, s_if_ge, s_if_gt, s_if_le, s_if_ne, s_ic_eq, s_ic_lt, s_ic_ge, s_ic_gt, s_ic_le, s_ic_ne, s_ifnn_r, s_ifnn_n, s_goto, s_nop, s_tab, s_getfield, s_putfield, s_anewarray, s_newarray, s_iaload, s_baload, s_caload, s_laload, s_daload, s_aaload, s_iastore, s_bastore, s_castore, s_lastore, s_dastore, s_aastore, s_arraylength, s_lreturn, s_freturn, s_dreturn, s_areturn, s_return, s_new, s_thr, ld_Z, ld_S, kl_Z, pd_0, pd_c, pd_n, ag_i, ag_r, ag_l, ag_n, st_Z, st_On, st_Oi, st_Or, st_Ol, st_S, s2_eq, mk_t, mk_f, mk_n, cl_v, cl_n, cl_if, vl_0, vl_1, vl_2, cv_i, cv_l, cv_d, cv_f, rf_s, qW_n, qW_i, qW_l, qW_r, qMem, x_get, x_putI, x_putL, x_ldL, x_ldI, x_ldA, x_stL, x_stI, x_isO, MK_1, MK_21, List.set_cons_zero, List.set_cons_succ, List.getElem?_cons_zero, List.getElem?_cons_succ, Option.map_some, List.tail_cons, i64_32, Nat.zero_add, Nat.reduceAdd, Nat.reduceLeDiff, Nat.le_refl, if_true, if_false, ite_true, ite_false, reduceIte, lnO, rfO, fn_0, f_0_0, f_0_1, f_0_2, f_0_3, f_0_4, f_0_5, f_0_6, f_0_7, f_0_8, f_0_9, f_0_10, f_0_11, f_0_12, f_0_13, f_0_14, fn_1, f_1_0, f_1_1, f_1_2, f_1_3, f_1_4, fn_2, f_2_0, f_2_1, f_2_2, f_2_3, f_2_4, f_2_5, fn_3, f_3_0, f_3_1, f_3_2, f_3_3, fn_4, f_4_0, f_4_1, f_4_2, f_4_3, f_4_4, f_4_5, fn_5, f_5_0, f_5_1, f_5_2, fn_6, f_6_0, f_6_1, f_6_2, fn_7, f_7_0, f_7_1, f_7_2, f_7_3, f_7_4, fn_8, f_8_0, f_8_1, f_8_2, f_8_3, f_8_4, f_8_5, f_8_6, f_8_7, fn_9, f_9_0, f_9_1, f_9_2, f_9_3, f_9_4, f_9_5, fn_10, f_10_0, f_10_1, f_10_2, f_10_3, f_10_4, f_10_5, f_10_6, f_10_7, f_10_8, f_10_9, f_10_10, f_10_11, f_10_12, f_10_13, f_10_14, f_10_15, f_10_16, f_10_17, f_10_18, f_10_19, f_10_20, f_10_21, f_10_22, f_10_23, Nat.reduceLT, cv_t, x_ld3, x_ld2, x_st3, x_st2, rm_g2, rm_g3, rm_g4, rm_g5, rm_g6, rm_g7, rm_s2, rm_s3, rm_s4, rm_s5, rm_s6, rm_s7, rm_t, h0, h2, pq_E, pq_sE, iK, zK, hk, pK]
  by_cases hz4 : P3.2.1 = 0
  rotate_left
  · have eo : ouP T L (nI st) P3 (nI e) = wdP T L (skP T L P3) := by unfold ouP; rw [if_pos (Or.inl hz4)]
    rw [eo]
    refine ⟨bg3, sv E4 1 (nI (e + 1)).toInt64, P3, ?_, rfl, fun q => absurd q hz4⟩
    rw [← fin3 _ _ _ k4]
    simp -implicitDefEqProofs only [e171, K171_0, K171_1, j171_1, j171_3, s_iadd, s_isub, s_imul, s_ineg, s_iand, s_ior, s_ixor, s_ishl, s_ishr, s_iushr, s_i2l, s_l2i, s_i2b, s_i2c, s_ladd, s_lsub, s_lmul, s_lneg, s_land, s_lor, s_lshl, s_lshr, s_lushr, s_lcmp, s_l2d, s_l2f, s_i2d, s_i2f, s_idiv, s_ldiv, s_irem, s_lrem, s_dcmp, s_fcmp, s_ddiv, s_fdiv, s_f2d, s_dup_i, s_dup_r, s_dup2_l, s_dup2_ir, s_pop, s_iconst, s_bipush, s_sipush, s_lconst, s_fconst, s_dconst, s_ldc, s_ldc_w, s_ldc2_w, s_iload, s_iload_n0, s_iload_n1, s_iload_n2, s_iload_n3, s_lload, s_lload_n0, s_lload_n1, s_lload_n2, s_lload_n3, s_fload, s_fload_n0, s_fload_n1, s_fload_n2, s_fload_n3, s_dload, s_dload_n0, s_dload_n1, s_dload_n2, s_dload_n3, s_aload, s_aload_n0, s_aload_n1, s_aload_n2, s_aload_n3, s_istore, s_istore_n0, s_istore_n1, s_istore_n2, s_istore_n3, s_lstore, s_lstore_n0, s_lstore_n1, s_lstore_n2, s_lstore_n3, s_fstore, s_fstore_n0, s_fstore_n1, s_fstore_n2, s_fstore_n3, s_dstore, s_dstore_n0, s_dstore_n1, s_dstore_n2, s_dstore_n3, s_astore, s_astore_n0, s_astore_n1, s_astore_n2, s_astore_n3, s_astoreN_n, s_iinc, s_if_eq, s_if_lt, s_if_ge, s_if_gt, s_if_le, s_if_ne, s_ic_eq, s_ic_lt, s_ic_ge, s_ic_gt, s_ic_le, s_ic_ne, s_ifnn_r, s_ifnn_n, s_goto, s_nop, s_tab, s_getfield, s_putfield, s_anewarray, s_newarray, s_iaload, s_baload, s_caload, s_laload, s_daload, s_aaload, s_iastore, s_bastore, s_castore, s_lastore, s_dastore, s_aastore, s_arraylength, s_lreturn, s_freturn, s_dreturn, s_areturn, s_return, s_new, s_thr, ld_Z, ld_S, kl_Z, pd_0, pd_c, pd_n, ag_i, ag_r, ag_l, ag_n, st_Z, st_On, st_Oi, st_Or, st_Ol, st_S, s2_eq, mk_t, mk_f, mk_n, cl_v, cl_n, cl_if, vl_0, vl_1, vl_2, cv_i, cv_l, cv_d, cv_f, rf_s, qW_n, qW_i, qW_l, qW_r, qMem, x_get, x_putI, x_putL, x_ldL, x_ldI, x_ldA, x_stL, x_stI, x_isO, MK_1, MK_21, List.set_cons_zero, List.set_cons_succ, List.getElem?_cons_zero, List.getElem?_cons_succ, Option.map_some, List.tail_cons, i64_32, Nat.zero_add, Nat.reduceAdd, Nat.reduceLeDiff, Nat.le_refl, if_true, if_false, ite_true, ite_false, reduceIte, lnO, rfO, fn_0, f_0_0, f_0_1, f_0_2, f_0_3, f_0_4, f_0_5, f_0_6, f_0_7, f_0_8, f_0_9, f_0_10, f_0_11, f_0_12, f_0_13, f_0_14, fn_1, f_1_0, f_1_1, f_1_2, f_1_3, f_1_4, fn_2, f_2_0, f_2_1, f_2_2, f_2_3, f_2_4, f_2_5, fn_3, f_3_0, f_3_1, f_3_2, f_3_3, fn_4, f_4_0, f_4_1, f_4_2, f_4_3, f_4_4, f_4_5, fn_5, f_5_0, f_5_1, f_5_2, fn_6, f_6_0, f_6_1, f_6_2, fn_7, f_7_0, f_7_1, f_7_2, f_7_3, f_7_4, fn_8, f_8_0, f_8_1, f_8_2, f_8_3, f_8_4, f_8_5, f_8_6, f_8_7, fn_9, f_9_0, f_9_1, f_9_2, f_9_3, f_9_4, f_9_5, fn_10, f_10_0, f_10_1, f_10_2, f_10_3, f_10_4, f_10_5, f_10_6, f_10_7, f_10_8, f_10_9, f_10_10, f_10_11, f_10_12, f_10_13, f_10_14, f_10_15, f_10_16, f_10_17, f_10_18, f_10_19, f_10_20, f_10_21, f_10_22, f_10_23, Nat.reduceLT, cv_t, x_ld3, x_ld2, x_st3, x_st2, rm_g2, rm_g3, rm_g4, rm_g5, rm_g6, rm_g7, rm_s2, rm_s3, rm_s4, rm_s5, rm_s6, rm_s7, rm_t, c168, c170, c172, g8, g1, g2, g3, hE1, hE2, hE3, hE4, tx, h0, h2, n1, pq_E, pq_sE, pq_g12, nia1, nia2, nia3, nia4, i1, z1, i2, z2, i3, z3, i4, z4, iK, zK, rK, if_neg hz4]
  have y2 := hz3 hz4
  have y1 := hz2 y2
  rw [if_pos y1] at hv1
  rw [if_pos y2] at hv2
  rw [if_pos hz4] at hv3
  obtain ⟨l1, u1⟩ := hb1 y1 (by decide) (by decide)
  obtain ⟨l2, u2⟩ := hb2 y2 (by decide) (by decide)
  obtain ⟨l3, u3⟩ := hb3 hz4 (by decide) (by decide)
  have rp := fun (o : Int32) (ho : -1 ≤ o.toInt ∧ o.toInt ≤ (e : Int) - 1) => rp_env hR hlt (w1 := w1) (w2 := w2) (w3 := w3) (o := o) ⟨l1, u1⟩ ⟨l2, u2⟩ ⟨l3, u3⟩ ho
  rw [hv1, hv2, hv3, hE1, hE2, hE3] at rp
  rw [show cn D 1 = e from cn_of hR.n1 (by omega)]
  have g5 := t163 (G := G) (μ := μ) (bg := bg3) (st := st) (E := E4) (n := n) (s := s) hM' hA hT hL hle3
  have q5 := q165l (G := G) (x := hrT T L (skP T L P3).1) (h := MK y (PQ μ M L (skP T L P3).1 st (skP T L P3) E4) n s)
  have hs3 := (skP_le (T := T) hle3).1
  by_cases hd : (skP T L P3).1 < L ∧ isLt T (skP T L P3).1 = true
  rotate_left
  · have hne : ¬ (97 ≤ hrT T L (skP T L P3).1 ∧ hrT T L (skP T L P3).1 ≤ 122) := by
      by_cases hq : (skP T L P3).1 < L
      · rw [hr_lt hT hq]; exact fun q => hd ⟨hq, q⟩
      · rw [show (skP T L P3).1 = L by omega, hr_end]; decide
    rw [if_neg hne] at q5
    have ew : wdP T L (skP T L P3) = skP T L P3 := by
      show (adv (isLt T) (L - (skP T L P3).1) (skP T L P3).1, (skP T L P3).2) = skP T L P3
      rw [adv_stop]
      by_cases hq : (skP T L P3).1 < L
      · exact Or.inl (Bool.eq_false_iff.mpr (fun q => hd ⟨hq, q⟩))
      · right; omega
    have eQ : ouQ T L P3 := Or.inr (by rw [ew])
    have eo : ouP T L (nI st) P3 (nI e) = skP T L P3 := by unfold ouP; rw [if_pos eQ, ew]
    have er : ouR T L (nI st) P3 (nI e) = -1 := by unfold ouR; rw [if_pos eQ]
    rw [eo, er]
    refine ⟨(skP T L P3).1, sv E4 1 (nI (e + 1)).toInt64, skP T L P3, ?_, rfl, fun q => ⟨rfl, a, e + 1, f, i, b, p, ?_⟩⟩
    · rw [← fin3 _ _ _ k4]
      simp -implicitDefEqProofs only [e171, K171_0, K171_1, j171_1, j171_3, s_iadd, s_isub, s_imul, s_ineg, s_iand, s_ior, s_ixor, s_ishl, s_ishr, s_iushr, s_i2l, s_l2i, s_i2b, s_i2c, s_ladd, s_lsub, s_lmul, s_lneg, s_land, s_lor, s_lshl, s_lshr, s_lushr, s_lcmp, s_l2d, s_l2f, s_i2d, s_i2f, s_idiv, s_ldiv, s_irem, s_lrem, s_dcmp, s_fcmp, s_ddiv, s_fdiv, s_f2d, s_dup_i, s_dup_r, s_dup2_l, s_dup2_ir, s_pop, s_iconst, s_bipush, s_sipush, s_lconst, s_fconst, s_dconst, s_ldc, s_ldc_w, s_ldc2_w, s_iload, s_iload_n0, s_iload_n1, s_iload_n2, s_iload_n3, s_lload, s_lload_n0, s_lload_n1, s_lload_n2, s_lload_n3, s_fload, s_fload_n0, s_fload_n1, s_fload_n2, s_fload_n3, s_dload, s_dload_n0, s_dload_n1, s_dload_n2, s_dload_n3, s_aload, s_aload_n0, s_aload_n1, s_aload_n2, s_aload_n3, s_istore, s_istore_n0, s_istore_n1, s_istore_n2, s_istore_n3, s_lstore, s_lstore_n0, s_lstore_n1, s_lstore_n2, s_lstore_n3, s_fstore, s_fstore_n0, s_fstore_n1, s_fstore_n2, s_fstore_n3, s_dstore, s_dstore_n0, s_dstore_n1, s_dstore_n2, s_dstore_n3, s_astore, s_astore_n0, s_astore_n1, s_astore_n2, s_astore_n3, s_astoreN_n, s_iinc, s_if_eq, s_if_lt, s_if_ge, s_if_gt, s_if_le, s_if_ne, s_ic_eq, s_ic_lt, s_ic_ge, s_ic_gt, s_ic_le, s_ic_ne, s_ifnn_r, s_ifnn_n, s_goto, s_nop, s_tab, s_getfield, s_putfield, s_anewarray, s_newarray, s_iaload, s_baload, s_caload, s_laload, s_daload, s_aaload, s_iastore, s_bastore, s_castore, s_lastore, s_dastore, s_aastore, s_arraylength, s_lreturn, s_freturn, s_dreturn, s_areturn, s_return, s_new, s_thr, ld_Z, ld_S, kl_Z, pd_0, pd_c, pd_n, ag_i, ag_r, ag_l, ag_n, st_Z, st_On, st_Oi, st_Or, st_Ol, st_S, s2_eq, mk_t, mk_f, mk_n, cl_v, cl_n, cl_if, vl_0, vl_1, vl_2, cv_i, cv_l, cv_d, cv_f, rf_s, qW_n, qW_i, qW_l, qW_r, qMem, x_get, x_putI, x_putL, x_ldL, x_ldI, x_ldA, x_stL, x_stI, x_isO, MK_1, MK_21, List.set_cons_zero, List.set_cons_succ, List.getElem?_cons_zero, List.getElem?_cons_succ, Option.map_some, List.tail_cons, i64_32, Nat.zero_add, Nat.reduceAdd, Nat.reduceLeDiff, Nat.le_refl, if_true, if_false, ite_true, ite_false, reduceIte, lnO, rfO, fn_0, f_0_0, f_0_1, f_0_2, f_0_3, f_0_4, f_0_5, f_0_6, f_0_7, f_0_8, f_0_9, f_0_10, f_0_11, f_0_12, f_0_13, f_0_14, fn_1, f_1_0, f_1_1, f_1_2, f_1_3, f_1_4, fn_2, f_2_0, f_2_1, f_2_2, f_2_3, f_2_4, f_2_5, fn_3, f_3_0, f_3_1, f_3_2, f_3_3, fn_4, f_4_0, f_4_1, f_4_2, f_4_3, f_4_4, f_4_5, fn_5, f_5_0, f_5_1, f_5_2, fn_6, f_6_0, f_6_1, f_6_2, fn_7, f_7_0, f_7_1, f_7_2, f_7_3, f_7_4, fn_8, f_8_0, f_8_1, f_8_2, f_8_3, f_8_4, f_8_5, f_8_6, f_8_7, fn_9, f_9_0, f_9_1, f_9_2, f_9_3, f_9_4, f_9_5, fn_10, f_10_0, f_10_1, f_10_2, f_10_3, f_10_4, f_10_5, f_10_6, f_10_7, f_10_8, f_10_9, f_10_10, f_10_11, f_10_12, f_10_13, f_10_14, f_10_15, f_10_16, f_10_17, f_10_18, f_10_19, f_10_20, f_10_21, f_10_22, f_10_23, Nat.reduceLT, cv_t, x_ld3, x_ld2, x_st3, x_st2, rm_g2, rm_g3, rm_g4, rm_g5, rm_g6, rm_g7, rm_s2, rm_s3, rm_s4, rm_s5, rm_s6, rm_s7, rm_t, c163, c165, c168, c170, c172, g8, g1, g2, g3, g5, q5, hE1, hE2, hE3, hE4, tx, h0, h2, n1, pq_E, pq_sE, pq_g12, nia1, nia2, nia3, nia4, i1, z1, i2, z2, i3, z3, i4, z4, iK, zK, rK, if_pos hz4]
    · rw [if_pos q, ← hE4]
      have := rp (-1) ⟨by decide, by rw [show (-1 : Int32).toInt = -1 from rfl]; omega⟩
      exact this
  · rw [if_pos (by rw [hr_lt hT hd.1]; exact hd.2)] at q5
    have hnsp : isSp T (skP T L P3).1 = false := by
      have h97 := of_decide_eq_true hd.2
      unfold isSp
      rw [decide_eq_false_iff_not]
      intro q
      rw [q] at h97
      exact absurd h97.1 (by decide)
    have hid : skP T L (skP T L P3) = skP T L P3 := skP_idem (fun _ => hnsp)
    have g6 := t162 (G := G) (μ := μ) (bg := (skP T L P3).1) (st := st) (E := E4) (n := n) (s := s) (P := skP T L P3) hM' hA hT hL hs3
    rw [hid] at g6
    have hwl := (wdP_le (T := T) hs3).1
    have hwg := (wdP_le (T := T) hs3).2
    have hne : ¬ (skP T L P3).1 = (wdP T L (skP T L P3)).1 := by
      show ¬ (skP T L P3).1 = adv (isLt T) (L - (skP T L P3).1) (skP T L P3).1
      rw [show L - (skP T L P3).1 = L - (skP T L P3).1 - 1 + 1 by omega, adv, if_pos hd.2]
      have := (adv_le (Q := isLt T) (L - (skP T L P3).1 - 1) ((skP T L P3).1 + 1)).1
      omega
    have nQ : ¬ ouQ T L P3 := fun q => q.elim (fun r => r hz4) hne
    have eo : ouP T L (nI st) P3 (nI e) = nmP T L (nI st) (ouP1 T L (nI st) P3) 0 (nI e - 1) := by unfold ouP; rw [if_neg nQ]
    have er : ouR T L (nI st) P3 (nI e) = nmR T L (ouP1 T L (nI st) P3) 0 (nI e - 1) := by unfold ouR; rw [if_neg nQ]
    rw [eo, er]
    have hS := (hX.pq (L := L) (bg := (skP T L P3).1) (st := st) (P := wdP T L (skP T L P3)) (E := E4) (Nat.le_refl _) 13 (by decide)).2 n s
    rw [qTx_map] at hS
    have g7 := t166 (G := G) (μ := μ) (bg := (skP T L P3).1) (st := st) (E := E4) (n := n) (s := s) (P := wdP T L (skP T L P3)) hM' hA hT hL hwl hwg hS (wsT_len 13) (wsT_c 13)
    have e13 : wsT 13 = wsT 6 := rfl
    rw [e13] at g7
    have ob : (ouP1 T L (nI st) P3).1 ≤ L := ouP1_le hle3
    have step : ∃ bg4, qR PG G (qEntry PG 171 [.ref M] (MK y (PQ μ M L bg st P E) n s)) = qR PG G (171, K171_2, [some (.ref M), some (.int (nI (13 + 6 * e)))], [], MK y (PQ μ M L bg4 st (ouP1 T L (nI st) P3) E4) n s) := by
      refine ⟨(skP T L P3).1, ?_⟩
      unfold ouP1
      by_cases hw : isW T (skP T L P3).1 (wdP T L (skP T L P3)).1 (wsT 6) = true
      · rw [if_pos hw] at g7 ⊢
        simp -implicitDefEqProofs only [e171, K171_0, K171_1, j171_1, j171_2, j171_3, s_iadd, s_isub, s_imul, s_ineg, s_iand, s_ior, s_ixor, s_ishl, s_ishr, s_iushr, s_i2l, s_l2i, s_i2b, s_i2c, s_ladd, s_lsub, s_lmul, s_lneg, s_land, s_lor, s_lshl, s_lshr, s_lushr, s_lcmp, s_l2d, s_l2f, s_i2d, s_i2f, s_idiv, s_ldiv, s_irem, s_lrem, s_dcmp, s_fcmp, s_ddiv, s_fdiv, s_f2d, s_dup_i, s_dup_r, s_dup2_l, s_dup2_ir, s_pop, s_iconst, s_bipush, s_sipush, s_lconst, s_fconst, s_dconst, s_ldc, s_ldc_w, s_ldc2_w, s_iload, s_iload_n0, s_iload_n1, s_iload_n2, s_iload_n3, s_lload, s_lload_n0, s_lload_n1, s_lload_n2, s_lload_n3, s_fload, s_fload_n0, s_fload_n1, s_fload_n2, s_fload_n3, s_dload, s_dload_n0, s_dload_n1, s_dload_n2, s_dload_n3, s_aload, s_aload_n0, s_aload_n1, s_aload_n2, s_aload_n3, s_istore, s_istore_n0, s_istore_n1, s_istore_n2, s_istore_n3, s_lstore, s_lstore_n0, s_lstore_n1, s_lstore_n2, s_lstore_n3, s_fstore, s_fstore_n0, s_fstore_n1, s_fstore_n2, s_fstore_n3, s_dstore, s_dstore_n0, s_dstore_n1, s_dstore_n2, s_dstore_n3, s_astore, s_astore_n0, s_astore_n1, s_astore_n2, s_astore_n3, s_astoreN_n, s_iinc, s_if_eq, s_if_lt, s_if_ge, s_if_gt, s_if_le, s_if_ne, s_ic_eq, s_ic_lt, s_ic_ge, s_ic_gt, s_ic_le, s_ic_ne, s_ifnn_r, s_ifnn_n, s_goto, s_nop, s_tab, s_getfield, s_putfield, s_anewarray, s_newarray, s_iaload, s_baload, s_caload, s_laload, s_daload, s_aaload, s_iastore, s_bastore, s_castore, s_lastore, s_dastore, s_aastore, s_arraylength, s_lreturn, s_freturn, s_dreturn, s_areturn, s_return, s_new, s_thr, ld_Z, ld_S, kl_Z, pd_0, pd_c, pd_n, ag_i, ag_r, ag_l, ag_n, st_Z, st_On, st_Oi, st_Or, st_Ol, st_S, s2_eq, mk_t, mk_f, mk_n, cl_v, cl_n, cl_if, vl_0, vl_1, vl_2, cv_i, cv_l, cv_d, cv_f, rf_s, qW_n, qW_i, qW_l, qW_r, qMem, x_get, x_putI, x_putL, x_ldL, x_ldI, x_ldA, x_stL, x_stI, x_isO, MK_1, MK_21, List.set_cons_zero, List.set_cons_succ, List.getElem?_cons_zero, List.getElem?_cons_succ, Option.map_some, List.tail_cons, i64_32, Nat.zero_add, Nat.reduceAdd, Nat.reduceLeDiff, Nat.le_refl, if_true, if_false, ite_true, ite_false, reduceIte, lnO, rfO, fn_0, f_0_0, f_0_1, f_0_2, f_0_3, f_0_4, f_0_5, f_0_6, f_0_7, f_0_8, f_0_9, f_0_10, f_0_11, f_0_12, f_0_13, f_0_14, fn_1, f_1_0, f_1_1, f_1_2, f_1_3, f_1_4, fn_2, f_2_0, f_2_1, f_2_2, f_2_3, f_2_4, f_2_5, fn_3, f_3_0, f_3_1, f_3_2, f_3_3, fn_4, f_4_0, f_4_1, f_4_2, f_4_3, f_4_4, f_4_5, fn_5, f_5_0, f_5_1, f_5_2, fn_6, f_6_0, f_6_1, f_6_2, fn_7, f_7_0, f_7_1, f_7_2, f_7_3, f_7_4, fn_8, f_8_0, f_8_1, f_8_2, f_8_3, f_8_4, f_8_5, f_8_6, f_8_7, fn_9, f_9_0, f_9_1, f_9_2, f_9_3, f_9_4, f_9_5, fn_10, f_10_0, f_10_1, f_10_2, f_10_3, f_10_4, f_10_5, f_10_6, f_10_7, f_10_8, f_10_9, f_10_10, f_10_11, f_10_12, f_10_13, f_10_14, f_10_15, f_10_16, f_10_17, f_10_18, f_10_19, f_10_20, f_10_21, f_10_22, f_10_23, Nat.reduceLT, cv_t, x_ld3, x_ld2, x_st3, x_st2, rm_g2, rm_g3, rm_g4, rm_g5, rm_g6, rm_g7, rm_s2, rm_s3, rm_s4, rm_s5, rm_s6, rm_s7, rm_t, c162, c163, c165, c166, c168, c170, c172, g8, g1, g2, g3, g5, q5, g6, g7, hE1, hE2, hE3, hE4, tx, h0, h2, n1, pq_E, pq_sE, pq_g12, nia1, nia2, nia3, nia4, i1, z1, i2, z2, i3, z3, i4, z4, iK, zK, rK, if_pos hz4]
      · rw [if_neg hw] at g7 ⊢
        have g9 := t169 (G := G) (μ := μ) (bg := (skP T L P3).1) (st := st) (P := wdP T L (skP T L P3)) (E := E4) (L := L) (n := n) (s := s) hM' (k := 1)
        simp -implicitDefEqProofs only [e171, K171_0, K171_1, j171_1, j171_2, j171_3, s_iadd, s_isub, s_imul, s_ineg, s_iand, s_ior, s_ixor, s_ishl, s_ishr, s_iushr, s_i2l, s_l2i, s_i2b, s_i2c, s_ladd, s_lsub, s_lmul, s_lneg, s_land, s_lor, s_lshl, s_lshr, s_lushr, s_lcmp, s_l2d, s_l2f, s_i2d, s_i2f, s_idiv, s_ldiv, s_irem, s_lrem, s_dcmp, s_fcmp, s_ddiv, s_fdiv, s_f2d, s_dup_i, s_dup_r, s_dup2_l, s_dup2_ir, s_pop, s_iconst, s_bipush, s_sipush, s_lconst, s_fconst, s_dconst, s_ldc, s_ldc_w, s_ldc2_w, s_iload, s_iload_n0, s_iload_n1, s_iload_n2, s_iload_n3, s_lload, s_lload_n0, s_lload_n1, s_lload_n2, s_lload_n3, s_fload, s_fload_n0, s_fload_n1, s_fload_n2, s_fload_n3, s_dload, s_dload_n0, s_dload_n1, s_dload_n2, s_dload_n3, s_aload, s_aload_n0, s_aload_n1, s_aload_n2, s_aload_n3, s_istore, s_istore_n0, s_istore_n1, s_istore_n2, s_istore_n3, s_lstore, s_lstore_n0, s_lstore_n1, s_lstore_n2, s_lstore_n3, s_fstore, s_fstore_n0, s_fstore_n1, s_fstore_n2, s_fstore_n3, s_dstore, s_dstore_n0, s_dstore_n1, s_dstore_n2, s_dstore_n3, s_astore, s_astore_n0, s_astore_n1, s_astore_n2, s_astore_n3, s_astoreN_n, s_iinc, s_if_eq, s_if_lt, s_if_ge, s_if_gt, s_if_le, s_if_ne, s_ic_eq, s_ic_lt, s_ic_ge, s_ic_gt, s_ic_le, s_ic_ne, s_ifnn_r, s_ifnn_n, s_goto, s_nop, s_tab, s_getfield, s_putfield, s_anewarray, s_newarray, s_iaload, s_baload, s_caload, s_laload, s_daload, s_aaload, s_iastore, s_bastore, s_castore, s_lastore, s_dastore, s_aastore, s_arraylength, s_lreturn, s_freturn, s_dreturn, s_areturn, s_return, s_new, s_thr, ld_Z, ld_S, kl_Z, pd_0, pd_c, pd_n, ag_i, ag_r, ag_l, ag_n, st_Z, st_On, st_Oi, st_Or, st_Ol, st_S, s2_eq, mk_t, mk_f, mk_n, cl_v, cl_n, cl_if, vl_0, vl_1, vl_2, cv_i, cv_l, cv_d, cv_f, rf_s, qW_n, qW_i, qW_l, qW_r, qMem, x_get, x_putI, x_putL, x_ldL, x_ldI, x_ldA, x_stL, x_stI, x_isO, MK_1, MK_21, List.set_cons_zero, List.set_cons_succ, List.getElem?_cons_zero, List.getElem?_cons_succ, Option.map_some, List.tail_cons, i64_32, Nat.zero_add, Nat.reduceAdd, Nat.reduceLeDiff, Nat.le_refl, if_true, if_false, ite_true, ite_false, reduceIte, lnO, rfO, fn_0, f_0_0, f_0_1, f_0_2, f_0_3, f_0_4, f_0_5, f_0_6, f_0_7, f_0_8, f_0_9, f_0_10, f_0_11, f_0_12, f_0_13, f_0_14, fn_1, f_1_0, f_1_1, f_1_2, f_1_3, f_1_4, fn_2, f_2_0, f_2_1, f_2_2, f_2_3, f_2_4, f_2_5, fn_3, f_3_0, f_3_1, f_3_2, f_3_3, fn_4, f_4_0, f_4_1, f_4_2, f_4_3, f_4_4, f_4_5, fn_5, f_5_0, f_5_1, f_5_2, fn_6, f_6_0, f_6_1, f_6_2, fn_7, f_7_0, f_7_1, f_7_2, f_7_3, f_7_4, fn_8, f_8_0, f_8_1, f_8_2, f_8_3, f_8_4, f_8_5, f_8_6, f_8_7, fn_9, f_9_0, f_9_1, f_9_2, f_9_3, f_9_4, f_9_5, fn_10, f_10_0, f_10_1, f_10_2, f_10_3, f_10_4, f_10_5, f_10_6, f_10_7, f_10_8, f_10_9, f_10_10, f_10_11, f_10_12, f_10_13, f_10_14, f_10_15, f_10_16, f_10_17, f_10_18, f_10_19, f_10_20, f_10_21, f_10_22, f_10_23, Nat.reduceLT, cv_t, x_ld3, x_ld2, x_st3, x_st2, rm_g2, rm_g3, rm_g4, rm_g5, rm_g6, rm_g7, rm_s2, rm_s3, rm_s4, rm_s5, rm_s6, rm_s7, rm_t, c162, c163, c165, c166, c168, c169, c170, c172, g8, g1, g2, g3, g5, q5, g6, g7, g9, hE1, hE2, hE3, hE4, tx, h0, h2, n1, pq_E, pq_sE, pq_g12, nia1, nia2, nia3, nia4, i1, z1, i2, z2, i3, z3, i4, z4, iK, zK, rK, if_pos hz4]
    obtain ⟨bg4, hst⟩ := step
    rw [hst]
    generalize ouP1 T L (nI st) P3 = O at ob ⊢
    obtain ⟨bg5, g10⟩ := t170 (G := G) (μ := μ) (bg := bg4) (st := st) (E := E4) (n := n) (s := s) hM' hA hT hL ob (lo := 0) (hi := nI e - 1) (by decide) (by rw [e1.2]; omega)
    rw [← e1.1] at g10
    have g10 : qR PG G (qEntry PG 170 [.ref M, .long 0, .long ((nI e).toInt64 - 1)] (MK y (PQ μ M L bg4 st O E4) n s)) = _ := g10
    have hb4 := nmR_b (T := T) (L := L) (P := O) (lo := 0) (hi := nI e - 1) (sti := nI st)
    generalize nmR T L O 0 (nI e - 1) = w4 at g10 hb4 ⊢
    generalize nmP T L (nI st) O 0 (nI e - 1) = P4 at g10 hb4 ⊢
    generalize hv4 : (if P4.2.1 = 0 then w4.toInt64 else (0 : Int32).toInt64) = v4 at g10
    obtain ⟨E5, hE5⟩ : ∃ E5, sv E4 (13 + 6 * e + 4) v4 = E5 := ⟨_, rfl⟩
    have k5 : E5 1 = (nI e).toInt64 := by rw [← hE5, sv_get, if_neg (by omega)]; exact k4
    refine ⟨bg5, sv E5 1 (nI (e + 1)).toInt64, P4, ?_, rfl, fun q => ⟨rfl, a, e + 1, f, i, b, p, ?_⟩⟩
    · rw [← fin3 _ _ _ k5]
      simp -implicitDefEqProofs only [K171_2, j171_3, s_iadd, s_isub, s_imul, s_ineg, s_iand, s_ior, s_ixor, s_ishl, s_ishr, s_iushr, s_i2l, s_l2i, s_i2b, s_i2c, s_ladd, s_lsub, s_lmul, s_lneg, s_land, s_lor, s_lshl, s_lshr, s_lushr, s_lcmp, s_l2d, s_l2f, s_i2d, s_i2f, s_idiv, s_ldiv, s_irem, s_lrem, s_dcmp, s_fcmp, s_ddiv, s_fdiv, s_f2d, s_dup_i, s_dup_r, s_dup2_l, s_dup2_ir, s_pop, s_iconst, s_bipush, s_sipush, s_lconst, s_fconst, s_dconst, s_ldc, s_ldc_w, s_ldc2_w, s_iload, s_iload_n0, s_iload_n1, s_iload_n2, s_iload_n3, s_lload, s_lload_n0, s_lload_n1, s_lload_n2, s_lload_n3, s_fload, s_fload_n0, s_fload_n1, s_fload_n2, s_fload_n3, s_dload, s_dload_n0, s_dload_n1, s_dload_n2, s_dload_n3, s_aload, s_aload_n0, s_aload_n1, s_aload_n2, s_aload_n3, s_istore, s_istore_n0, s_istore_n1, s_istore_n2, s_istore_n3, s_lstore, s_lstore_n0, s_lstore_n1, s_lstore_n2, s_lstore_n3, s_fstore, s_fstore_n0, s_fstore_n1, s_fstore_n2, s_fstore_n3, s_dstore, s_dstore_n0, s_dstore_n1, s_dstore_n2, s_dstore_n3, s_astore, s_astore_n0, s_astore_n1, s_astore_n2, s_astore_n3, s_astoreN_n, s_iinc, s_if_eq, s_if_lt, s_if_ge, s_if_gt, s_if_le, s_if_ne, s_ic_eq, s_ic_lt, s_ic_ge, s_ic_gt, s_ic_le, s_ic_ne, s_ifnn_r, s_ifnn_n, s_goto, s_nop, s_tab, s_getfield, s_putfield, s_anewarray, s_newarray, s_iaload, s_baload, s_caload, s_laload, s_daload, s_aaload, s_iastore, s_bastore, s_castore, s_lastore, s_dastore, s_aastore, s_arraylength, s_lreturn, s_freturn, s_dreturn, s_areturn, s_return, s_new, s_thr, ld_Z, ld_S, kl_Z, pd_0, pd_c, pd_n, ag_i, ag_r, ag_l, ag_n, st_Z, st_On, st_Oi, st_Or, st_Ol, st_S, s2_eq, mk_t, mk_f, mk_n, cl_v, cl_n, cl_if, vl_0, vl_1, vl_2, cv_i, cv_l, cv_d, cv_f, rf_s, qW_n, qW_i, qW_l, qW_r, qMem, x_get, x_putI, x_putL, x_ldL, x_ldI, x_ldA, x_stL, x_stI, x_isO, MK_1, MK_21, List.set_cons_zero, List.set_cons_succ, List.getElem?_cons_zero, List.getElem?_cons_succ, Option.map_some, List.tail_cons, i64_32, Nat.zero_add, Nat.reduceAdd, Nat.reduceLeDiff, Nat.le_refl, if_true, if_false, ite_true, ite_false, reduceIte, lnO, rfO, fn_0, f_0_0, f_0_1, f_0_2, f_0_3, f_0_4, f_0_5, f_0_6, f_0_7, f_0_8, f_0_9, f_0_10, f_0_11, f_0_12, f_0_13, f_0_14, fn_1, f_1_0, f_1_1, f_1_2, f_1_3, f_1_4, fn_2, f_2_0, f_2_1, f_2_2, f_2_3, f_2_4, f_2_5, fn_3, f_3_0, f_3_1, f_3_2, f_3_3, fn_4, f_4_0, f_4_1, f_4_2, f_4_3, f_4_4, f_4_5, fn_5, f_5_0, f_5_1, f_5_2, fn_6, f_6_0, f_6_1, f_6_2, fn_7, f_7_0, f_7_1, f_7_2, f_7_3, f_7_4, fn_8, f_8_0, f_8_1, f_8_2, f_8_3, f_8_4, f_8_5, f_8_6, f_8_7, fn_9, f_9_0, f_9_1, f_9_2, f_9_3, f_9_4, f_9_5, fn_10, f_10_0, f_10_1, f_10_2, f_10_3, f_10_4, f_10_5, f_10_6, f_10_7, f_10_8, f_10_9, f_10_10, f_10_11, f_10_12, f_10_13, f_10_14, f_10_15, f_10_16, f_10_17, f_10_18, f_10_19, f_10_20, f_10_21, f_10_22, f_10_23, Nat.reduceLT, cv_t, x_ld3, x_ld2, x_st3, x_st2, rm_g2, rm_g3, rm_g4, rm_g5, rm_g6, rm_g7, rm_s2, rm_s3, rm_s4, rm_s5, rm_s6, rm_s7, rm_t, c170, g10, hE5, h0, h2, pq_E, pq_sE, nia4, i4, z4, iK, zK, k4]
    · rw [if_pos q] at hv4 ⊢
      obtain ⟨l4, u4⟩ := hb4 q (by decide) (by rw [e1.2]; omega)
      rw [e1.2] at u4
      have l4 : 0 ≤ w4.toInt := l4
      have := rp w4 ⟨by omega, u4⟩
      rw [← hE5, ← hE4, sv_sv, ← hv4]
      exact this
end MPE
