/-! ===== length and charAt of a constant ===== -/
abbrev yCk : MethodName := ⟨"jdk/internal/util/Preconditions", "checkIndex", "(IILjava/util/function/BiFunction;)I"⟩
abbrev yCi : MethodName := ⟨"java/lang/String", "checkIndex", "(II)V"⟩
abbrev yLc : MethodName := ⟨"java/lang/StringLatin1", "charAt", "([BI)C"⟩
abbrev yL1 : MethodName := ⟨"java/lang/String", "isLatin1", "()Z"⟩
abbrev yCd : MethodName := ⟨"java/lang/String", "coder", "()B"⟩
abbrev yLn : MethodName := ⟨"java/lang/String", "length", "()I"⟩
abbrev yCh : MethodName := ⟨"java/lang/String", "charAt", "(I)C"⟩
theorem jc_ck (l : Launch) (z : qE) (G : qG) {i n : Int32} {q : Value} (hq : q.category = 1) (h0 : ¬ i < 0) (hn : i < n) : qJm l z G yCk prog_24_method_11_code 3 (some .int) 0 0 [.int i, .int n, q] (some (.int i)) := by
  refine qJm_of (by decide) (by simp [lg_sl, hq]; simp [Value.category]) ?_
  intro p e s m args below meth c ls hx hb hr hml hown hts hlocks hfx hlow hl
  refine lv_iload_n hx hb (k := 0) (by decide +kernel) rfl (hl.2.2 (0, .int i) (by simp [lv_args, Value.category])) ?_
  refine sd_br hx hb (i := .ifCond .lt 8) (off := 8) (tgt := 9) (by decide +kernel) (Or.inr (Or.inr (Or.inl ⟨_, rfl⟩))) rfl rfl (fun t => absurd (of_decide_eq_true t) h0) (fun _ => ?_)
  refine lv_iload_n hx hb (k := 0) (by decide +kernel) rfl (hl.2.2 (0, .int i) (by simp [lv_args, Value.category])) ?_
  refine lv_iload_n hx hb (k := 1) (by decide +kernel) rfl (hl.2.2 (1, .int n) (by simp [lv_args, Value.category])) ?_
  refine sd_br hx hb (i := .if_icmp .lt 10) (off := 10) (tgt := 16) (by decide +kernel) (Or.inr (Or.inr (Or.inr ⟨_, rfl⟩))) rfl rfl (fun _ => ?_) (fun t => absurd hn (of_decide_eq_false t))
  refine lv_iload_n hx hb (k := 0) (by decide +kernel) rfl (hl.2.2 (0, .int i) (by simp [lv_args, Value.category])) ?_
  exact W.iret hx hb hr (fun t ht hW => ⟨rfl, ht⟩) (fun q hq => nomatch hq) (by decide +kernel) hlocks
theorem jc_ci (l : Launch) (z : qE) (G : qG) {i n : Int32} (h0 : ¬ i < 0) (hn : i < n) : qJm l z G yCi prog_19_method_155_code 2 none 1 22 [.int i, .int n] none := by
  refine qJm_of (by decide) (by simp [lg_sl, Value.category]) ?_
  intro p e s m args below meth c ls hx hb hr hml hown hts hlocks hfx hlow hl
  refine lv_iload_n hx hb (k := 0) (by decide +kernel) rfl (hl.2.2 (0, .int i) (by simp [lv_args, Value.category])) ?_
  refine lv_iload_n hx hb (k := 1) (by decide +kernel) rfl (hl.2.2 (1, .int n) (by simp [lv_args, Value.category])) ?_
  obtain ⟨-, ⟨-, -, hz⟩, -, -, -, hZq, -⟩ := id hfx
  obtain ⟨q, hq, hZ⟩ : ∃ q : Value, q.category = 1 ∧ va_Z "jdk/internal/util/Preconditions" "SIOOBE_FORMATTER" "Ljava/util/function/BiFunction;" q (qAb z) s z.2.2.2.1 := hZq.elim (fun h => ⟨_, rfl, h⟩) (fun h => h.elim fun t h => ⟨_, rfl, h⟩)
  have hZ' := hZ.kept (hlow.q hz)
  refine va_gets hx hb (index := 1053) (C := "jdk/internal/util/Preconditions") (n := "SIOOBE_FORMATTER") (d := "Ljava/util/function/BiFunction;") (ref := "jdk/internal/util/Preconditions") hZ' va_S.rf hown (hts _ (qIsW_mem (i := 488) (by decide +kernel))) (fun x h => h) (by decide +kernel) ?_
  refine qJ_S (idx := 1059) (As := [.int i, .int n, q]) (rest := []) (jc_ck l z G hq h0 hn) hx hb (by rw [hml, hl.1]) hown hts hfx hlow (qIsW_mem (i := 492) (by decide +kernel)) ?_ (by decide) (fun sig h => ?_) (qIsW_mem (i := 490) (by decide +kernel)) ?_ (by decide) (by decide) (by decide) (by decide) (by decide) (by decide +kernel) ?_
  · exact qIsW_mem (i := 77) (by decide +kernel)
  · have : (parseMethodDescriptor yCk.desc).map (fun d => d.parameters.length) = some 3 := by decide +kernel
    rw [h] at this; exact (Option.some.inj this).symm
  · exact qIsW_mem (i := 491) (by decide +kernel)
  refine lv_pop hx hb (by decide +kernel) rfl ?_
  exact W.vret hx hb hr (fun t ht hW => ⟨rfl, ht⟩) (fun q hq => nomatch hq) (by decide +kernel) hlocks
theorem jc_rd {z : qE} {G : qG} {s : State} {H : Heap} (hfx : qFx z G s) (hlow : qLow z H) : va_S (qAb z) z.2.2.2.1 H [] := ⟨by rw [hfx.2.1.2.2]; exact hlow.1, hlow.q hfx.2.1.2.2, fun q hq => nomatch hq⟩
theorem jc_cd (l : Launch) (z : qE) (G : qG) {k : Nat} (hk : k < 14) : qJm l z G yCd prog_19_method_152_code 1 (some .byte) 0 0 [.ref (z.2.2.2.2 k)] (some (.int 0)) := by
  refine qJm_of (by decide) (by simp [lg_sl, Value.category]) ?_
  intro p e s m args below meth c ls hx hb hr hml hown hts hlocks hfx hlow hl
  obtain ⟨-, ⟨-, -, hz⟩, -, -, hC, -, hT, -⟩ := id hfx
  obtain ⟨-, -, g3, -⟩ := hT k hk
  refine va_gets hx hb (index := 38) (C := "java/lang/String") (n := "COMPACT_STRINGS") (d := "Z") (ref := "java/lang/String") (hC.kept (hlow.q hz)) va_S.rf hown (hts _ (qIsW_mem (i := 472) (by decide +kernel))) (fun x h => h) (by decide +kernel) ?_
  refine sd_br hx hb (i := .ifCond .eq 10) (off := 10) (tgt := 13) (by decide +kernel) (Or.inr (Or.inr (Or.inl ⟨_, rfl⟩))) rfl rfl (fun t => absurd t (by decide)) (fun _ => ?_)
  refine lv_aload_n hx hb (k := 0) (by decide +kernel) rfl (hl.2.2 (0, .ref (z.2.2.2.2 k)) (by simp [lv_args, Value.category])) ?_
  refine vk_getf hx hb (index := 15) (ref := "java/lang/String") (va_OF.kept g3 (hlow.q hz)) va_S.rf hown (hts _ (qIsW_mem (i := 1914) (by decide +kernel))) (fun x h => h) (by decide +kernel) ?_
  refine lv_goto hx hb (off := 4) (tgt := 14) (by decide +kernel) rfl ?_
  exact W.zret hx hb hr rfl (fun t ht hW => ⟨rfl, ht⟩) (fun q hq => nomatch hq) (by decide +kernel) hlocks
theorem jc_l1 (l : Launch) (z : qE) (G : qG) {k : Nat} (hk : k < 14) : qJm l z G yL1 prog_19_method_154_code 1 (some .boolean) 0 0 [.ref (z.2.2.2.2 k)] (some (.int 1)) := by
  refine qJm_of (by decide) (by simp [lg_sl, Value.category]) ?_
  intro p e s m args below meth c ls hx hb hr hml hown hts hlocks hfx hlow hl
  obtain ⟨-, ⟨-, -, hz⟩, -, -, hC, -, hT, -⟩ := id hfx
  obtain ⟨-, -, g3, -⟩ := hT k hk
  refine va_gets hx hb (index := 38) (C := "java/lang/String") (n := "COMPACT_STRINGS") (d := "Z") (ref := "java/lang/String") (hC.kept (hlow.q hz)) va_S.rf hown (hts _ (qIsW_mem (i := 472) (by decide +kernel))) (fun x h => h) (by decide +kernel) ?_
  refine sd_br hx hb (i := .ifCond .eq 14) (off := 14) (tgt := 17) (by decide +kernel) (Or.inr (Or.inr (Or.inl ⟨_, rfl⟩))) rfl rfl (fun t => absurd t (by decide)) (fun _ => ?_)
  refine lv_aload_n hx hb (k := 0) (by decide +kernel) rfl (hl.2.2 (0, .ref (z.2.2.2.2 k)) (by simp [lv_args, Value.category])) ?_
  refine vk_getf hx hb (index := 15) (ref := "java/lang/String") (va_OF.kept g3 (hlow.q hz)) va_S.rf hown (hts _ (qIsW_mem (i := 1914) (by decide +kernel))) (fun x h => h) (by decide +kernel) ?_
  refine sd_br hx hb (i := .ifCond .ne 7) (off := 7) (tgt := 17) (by decide +kernel) (Or.inr (Or.inr (Or.inl ⟨_, rfl⟩))) rfl rfl (fun t => absurd t (by decide)) (fun _ => ?_)
  refine lv_iconst hx hb (n := 1) (v := 1) (by decide +kernel) rfl ?_
  refine lv_goto hx hb (off := 4) (tgt := 18) (by decide +kernel) rfl ?_
  exact W.zret hx hb hr rfl (fun t ht hW => ⟨rfl, ht⟩) (fun q hq => nomatch hq) (by decide +kernel) hlocks
theorem jc_rc {z : qE} {G : qG} {s : State} {H : Heap} (hfx : qFx z G s) (hlow : qLow z H) {k : Nat} (hk : k < 14) : ∃ cell : Cell, H[z.2.2.2.2 k]? = some cell ∧ cell.vm.isStatics = false ∧ s.vm.findClass "java/lang/String" = some cell.cls := by
  obtain ⟨cell, h1, h2, h3, -⟩ := (hfx.2.2.2.2.2.2.1 k hk).2.1.kept (hlow.q hfx.2.1.2.2)
  exact ⟨cell, h1, h2, h3⟩
theorem jc_ln (l : Launch) (z : qE) (G : qG) {k : Nat} (hk : k < 14) : qJm l z G yLn prog_19_method_54_code 1 (some .int) 1 22 [.ref (z.2.2.2.2 k)] (some (.int (Int32.ofNat (qTx k).length))) := by
  refine qJm_of (by decide) (by simp [lg_sl, Value.category]) ?_
  intro p e s m args below meth c ls hx hb hr hml hown hts hlocks hfx hlow hl
  obtain ⟨-, ⟨-, -, hz⟩, -, -, hC, -, hT, -⟩ := id hfx
  obtain ⟨-, -, g3, g4, g5⟩ := hT k hk
  refine lv_aload_n hx hb (k := 0) (by decide +kernel) rfl (hl.2.2 (0, .ref (z.2.2.2.2 k)) (by simp [lv_args, Value.category])) ?_
  refine vk_getf hx hb (index := 9) (ref := "java/lang/String") (va_OF.kept g4 (hlow.q hz)) va_S.rf hown (hts _ (qIsW_mem (i := 1913) (by decide +kernel))) (fun x h => h) (by decide +kernel) ?_
  refine va_tlen hx hb (va_T.kept g5 (hlow.q hz)) va_S.rf rfl (by decide +kernel) ?_
  refine lv_aload_n hx hb (k := 0) (by decide +kernel) rfl (hl.2.2 (0, .ref (z.2.2.2.2 k)) (by simp [lv_args, Value.category])) ?_
  refine qJ_V (idx := 335) (As := []) (rest := [.int (Int32.ofNat (qTx k).length)]) (jc_cd l z G hk) hx hb (by rw [hml, hl.1]) hown hts hfx hlow (qIsW_mem (i := 471) (by decide +kernel)) (qIsW_mem (i := 75) (by decide +kernel)) (by decide) (fun sig h => ?_) (qIsW_mem (i := 468) (by decide +kernel)) (qIsW_mem (i := 469) (by decide +kernel)) (qIsW_mem (i := 470) (by decide +kernel)) (by decide) (by decide) (jc_rc hfx hlow hk) (by simp [Value.category]) (by decide) (by decide) (by decide +kernel) ?_
  · have : (parseMethodDescriptor yCd.desc).map (fun d => d.parameters.length) = some 0 := by decide +kernel
    rw [h] at this; exact (Option.some.inj this).symm
  refine sd_op hx hb (i := .ishr) (st := [.int 0, .int (Int32.ofNat (qTx k).length)]) (st' := [.int (Int32.ofNat (qTx k).length)]) (by decide +kernel) (by
    dsimp only [qOp]
    have : ∀ k, k < 14 → (Int32.ofNat (qTx k).length >>> ((0 : Int32) &&& 31)) = Int32.ofNat (qTx k).length := by decide +kernel
    rw [this k hk]) ?_
  exact W.iret hx hb hr (fun t ht hW => ⟨rfl, ht⟩) (fun q hq => nomatch hq) (by decide +kernel) hlocks
/-- what a text holds at i -/
theorem qTx_at : ∀ k, k < 14 → ∀ i, i < (qTx k).length → (qTx k).getD i .null = .int (match (qTx k).getD i .null with
    | .int x => x
    | _ => 0) ∧ (match (qTx k).getD i .null with
    | .int x => decide (((x &&& 255).toUInt32 % 65536).toInt32 = x) && decide (narrow .char (.int x) = .int x)
    | _ => false) = true := by decide +kernel
theorem qTx_len : ∀ k, k < 14 → (qTx k).length < 9 := by decide +kernel
theorem jc_lc (l : Launch) (z : qE) (G : qG) {k i : Nat} {x : Int32} (hk : k < 14) (hi : i < (qTx k).length) (hx9 : (qTx k)[i]? = some (.int x)) : qJm l z G yLc prog_20_method_2_code 2 (some .char) 2 43 [.ref (z.2.2.2.2 (k + 14)), .int (Int32.ofNat i)] (some (.int x)) := by
  have hlen := qTx_len k hk
  obtain ⟨-, t2⟩ := qTx_at k hk i hi
  have hgd : (qTx k).getD i .null = .int x := by rw [List.getD_eq_getElem?_getD, hx9]; rfl
  rw [hgd] at t2
  simp only [Bool.and_eq_true, decide_eq_true_eq] at t2
  have h0 : ¬ Int32.ofNat i < 0 := by
    have : i < 9 := by omega
    have key : ∀ i, i < 9 → ¬ Int32.ofNat i < 0 := by decide +kernel
    exact key i this
  have hn : Int32.ofNat i < Int32.ofNat (qTx k).length := by
    have key : ∀ n, n < 9 → ∀ i, i < n → Int32.ofNat i < Int32.ofNat n := by decide +kernel
    exact key _ hlen i hi
  have hcl : (Int32.ofNat i).toNatClampNeg = i := by
    have key : ∀ i, i < 9 → (Int32.ofNat i).toNatClampNeg = i := by decide +kernel
    exact key i (by omega)
  refine qJm_of (by decide) (by simp [lg_sl, Value.category]) ?_
  intro p e s m args below meth c ls hx hb hr hml hown hts hlocks hfx hlow hl
  have hz := hfx.2.1.2.2
  have g5 := va_T.kept (hfx.2.2.2.2.2.2.1 k hk).2.2.2.2 (hlow.q hz)
  refine lv_iload_n hx hb (k := 1) (by decide +kernel) rfl (hl.2.2 (1, .int (Int32.ofNat i)) (by simp [lv_args, Value.category])) ?_
  refine lv_aload_n hx hb (k := 0) (by decide +kernel) rfl (hl.2.2 (0, .ref (z.2.2.2.2 (k + 14))) (by simp [lv_args, Value.category])) ?_
  refine va_tlen hx hb g5 va_S.rf rfl (by decide +kernel) ?_
  refine qJ_S (idx := 9) (As := [.int (Int32.ofNat i), .int (Int32.ofNat (qTx k).length)]) (rest := []) (jc_ci l z G h0 hn) hx hb (by rw [hml, hl.1]) hown hts hfx hlow (qIsW_mem (i := 487) (by decide +kernel)) (qIsW_mem (i := 75) (by decide +kernel)) (by decide) (fun sig h => ?_) (qIsW_mem (i := 485) (by decide +kernel)) (qIsW_mem (i := 486) (by decide +kernel)) (by decide) (by decide) (by simp) (by decide) (by decide) (by decide +kernel) ?_
  · have : (parseMethodDescriptor yCi.desc).map (fun d => d.parameters.length) = some 2 := by decide +kernel
    rw [h] at this; exact (Option.some.inj this).symm
  refine lv_aload_n hx hb (k := 0) (by decide +kernel) rfl (hl.2.2 (0, .ref (z.2.2.2.2 (k + 14))) (by simp [lv_args, Value.category])) ?_
  refine lv_iload_n hx hb (k := 1) (by decide +kernel) rfl (hl.2.2 (1, .int (Int32.ofNat i)) (by simp [lv_args, Value.category])) ?_
  refine va_tb hx hb g5 va_S.rf (fun q => q.elim h0 (fun q => by rw [hcl] at q; omega)) (v := .int x) (by rw [hcl]; exact hgd) (by decide +kernel) ?_
  refine lv_sipush hx hb (n := 255) (v := 255) (by decide +kernel) rfl ?_
  refine lv_iand hx hb (by decide +kernel) ?_
  refine lv_i2c hx hb (by decide +kernel) t2.1 ?_
  exact W.zret hx hb hr t2.2 (fun t ht hW => ⟨rfl, ht⟩) (fun q hq => nomatch hq) (by decide +kernel) hlocks
theorem jc_ch (l : Launch) (z : qE) (G : qG) {k i : Nat} {x : Int32} (hk : k < 14) (hi : i < (qTx k).length) (hx9 : (qTx k)[i]? = some (.int x)) : qJm l z G yCh prog_19_method_56_code 2 (some .char) 3 64 [.ref (z.2.2.2.2 k), .int (Int32.ofNat i)] (some (.int x)) := by
  have hlen := qTx_len k hk
  obtain ⟨-, t2⟩ := qTx_at k hk i hi
  have hgd : (qTx k).getD i .null = .int x := by rw [List.getD_eq_getElem?_getD, hx9]; rfl
  rw [hgd] at t2
  simp only [Bool.and_eq_true, decide_eq_true_eq] at t2
  refine qJm_of (by decide) (by simp [lg_sl, Value.category]) ?_
  intro p e s m args below meth c ls hx hb hr hml hown hts hlocks hfx hlow hl
  have hz := hfx.2.1.2.2
  obtain ⟨-, -, g3, g4, g5⟩ := hfx.2.2.2.2.2.2.1 k hk
  refine lv_aload_n hx hb (k := 0) (by decide +kernel) rfl (hl.2.2 (0, .ref (z.2.2.2.2 k)) (by simp [lv_args, Value.category])) ?_
  refine qJ_V (idx := 492) (As := []) (rest := []) (jc_l1 l z G hk) hx hb (by rw [hml, hl.1]) hown hts hfx hlow (qIsW_mem (i := 481) (by decide +kernel)) (qIsW_mem (i := 75) (by decide +kernel)) (by decide) (fun sig h => ?_) (qIsW_mem (i := 478) (by decide +kernel)) (qIsW_mem (i := 479) (by decide +kernel)) (qIsW_mem (i := 480) (by decide +kernel)) (by decide) (by decide) (jc_rc hfx hlow hk) (by simp) (by decide) (by decide) (by decide +kernel) ?_
  · have : (parseMethodDescriptor yL1.desc).map (fun d => d.parameters.length) = some 0 := by decide +kernel
    rw [h] at this; exact (Option.some.inj this).symm
  refine sd_br hx hb (i := .ifCond .eq 12) (off := 12) (tgt := 16) (by decide +kernel) (Or.inr (Or.inr (Or.inl ⟨_, rfl⟩))) rfl rfl (fun t => absurd t (by decide)) (fun _ => ?_)
  refine lv_aload_n hx hb (k := 0) (by decide +kernel) rfl (hl.2.2 (0, .ref (z.2.2.2.2 k)) (by simp [lv_args, Value.category])) ?_
  refine vk_getf hx hb (index := 9) (ref := "java/lang/String") (va_OF.kept g4 (hlow.q hz)) va_S.rf hown (hts _ (qIsW_mem (i := 1913) (by decide +kernel))) (fun x h => h) (by decide +kernel) ?_
  refine lv_iload_n hx hb (k := 1) (by decide +kernel) rfl (hl.2.2 (1, .int (Int32.ofNat i)) (by simp [lv_args, Value.category])) ?_
  refine qJ_S (idx := 495) (As := [.ref (z.2.2.2.2 (k + 14)), .int (Int32.ofNat i)]) (rest := []) (jc_lc l z G hk hi hx9) hx hb (by rw [hml, hl.1]) hown hts hfx hlow (qIsW_mem (i := 484) (by decide +kernel)) (qIsW_mem (i := 76) (by decide +kernel)) (by decide) (fun sig h => ?_) (qIsW_mem (i := 482) (by decide +kernel)) (qIsW_mem (i := 483) (by decide +kernel)) (by decide) (by decide) (by simp) (by decide) (by decide) (by decide +kernel) ?_
  · have : (parseMethodDescriptor yLc.desc).map (fun d => d.parameters.length) = some 2 := by decide +kernel
    rw [h] at this; exact (Option.some.inj this).symm
  exact W.zret hx hb hr t2.2 (fun t ht hW => ⟨rfl, ht⟩) (fun q hq => nomatch hq) (by decide +kernel) hlocks
