/-! ===== The world at the law's start ===== -/
def wl_F : List Cond := flatC (Jvm.Cond.and given_1 narrow_1)
def wl_chk (F : List Cond) : List Nat → List Cond → Bool
  | i :: is, w :: ws => decide (F[i]? = some w) && wl_chk F is ws
  | [], [] => true
  | _, _ => false
theorem wl_mem {F : List Cond} : ∀ (is : List Nat) (ws : List Cond), wl_chk F is ws = true → ∀ w ∈ ws, w ∈ F
  | [], [], _, w, h => absurd h List.not_mem_nil
  | i :: is, w0 :: ws, h, w, hw => by
    unfold wl_chk at h
    rw [Bool.and_eq_true, decide_eq_true_eq] at h
    rcases List.mem_cons.mp hw with e | e
    · rw [e]; exact List.mem_of_getElem? h.1
    · exact wl_mem is ws h.2 w e
  | [], w0 :: ws, h, _, _ => by cases h
  | i :: is, [], h, _, _ => by cases h
def vI (v : Value) : Int32 := match v with
  | .int x => x
  | _ => 0
def tSk (k : Nat) : String × Nat × String := match k with
  | 0 => ("EnvelopeBudget$Reader", 57, "account")
  | 1 => ("EnvelopeBudget$Reader", 67, "envelope")
  | 2 => ("EnvelopeBudget$Reader", 72, "fund")
  | 3 => ("EnvelopeBudget$Reader", 77, "income")
  | 4 => ("EnvelopeBudget$Reader", 82, "bill")
  | 5 => ("EnvelopeBudget$Reader", 87, "people")
  | 6 => ("EnvelopeBudget$Reader", 124, "in")
  | 7 => ("EnvelopeBudgetModel", 176, "account")
  | 8 => ("EnvelopeBudgetModel", 181, "envelope")
  | 9 => ("EnvelopeBudgetModel", 186, "fund")
  | 10 => ("EnvelopeBudgetModel", 191, "income")
  | 11 => ("EnvelopeBudgetModel", 196, "bill")
  | 12 => ("EnvelopeBudgetModel", 201, "people")
  | _ => ("EnvelopeBudgetModel", 164, "in")
def tSt (k : Nat) : Term := .string (tSk k).1 (tSk k).2.1
def wl_A (k : Nat) : List Cond := Cond.exactly (tSt k) "java/lang/String" :: Cond.eq (.field (tSt k) "java/lang/String" "coder" "B") (.int 0) :: Cond.arrayOf (.field (tSt k) "java/lang/String" "value" "[B") .byte :: Cond.eq (.length (.field (tSt k) "java/lang/String" "value" "[B")) (.int (Int32.ofNat (qTx k).length)) :: (List.range (qTx k).length).map (fun j => Cond.eq (.elem (.field (tSt k) "java/lang/String" "value" "[B") (.int (Int32.ofNat j))) (.int (vI ((qTx k).getD j .null))))
def wl_I (k : Nat) : List Nat := match k with
  | 0 => [91, 92, 93, 94, 95, 96, 97, 98, 99, 100, 101]
  | 1 => [102, 103, 104, 105, 106, 107, 108, 109, 110, 111, 112, 113]
  | 2 => [120, 121, 122, 123, 124, 125, 126, 127]
  | 3 => [128, 129, 130, 131, 132, 133, 134, 135, 136, 137]
  | 4 => [138, 139, 140, 141, 142, 143, 144, 145]
  | 5 => [146, 147, 148, 149, 150, 151, 152, 153, 154, 155]
  | 6 => [114, 115, 116, 117, 118, 119]
  | 7 => [486, 487, 488, 489, 490, 491, 492, 493, 494, 495, 496]
  | 8 => [498, 499, 500, 501, 502, 503, 504, 505, 506, 507, 508, 509]
  | 9 => [518, 519, 520, 521, 522, 523, 524, 525]
  | 10 => [527, 528, 529, 530, 531, 532, 533, 534, 535, 536]
  | 11 => [538, 539, 540, 541, 542, 543, 544, 545]
  | 12 => [547, 548, 549, 550, 551, 552, 553, 554, 555, 556]
  | _ => [511, 512, 513, 514, 515, 516]
theorem wl_Aok : ∀ k, k < 14 → wl_chk wl_F (wl_I k) (wl_A k) = true := by decide +kernel
theorem wl_Sok : wl_chk lw_tbl [459, 538, 547, 556, 569, 582, 591, 1437, 1466, 1476, 1477, 1487, 1495, 1503] (tStr.map (fun q => Cond.stringRef q.1 q.2.1 q.2.2.1)) = true := by decide +kernel
theorem wl_Mok : wl_chk lw_tbl [784, 831, 853, 862, 892, 893, 901, 902, 918, 919, 938, 1011, 1029, 1108, 1109] (tMsg.map (fun q => Cond.stringRef q.1 q.2.1 q.2.2)) = true := by decide +kernel
theorem wl_Eok : wl_chk wl_F [156, 173, 192, 212, 245, 261, 289, 307, 338, 354, 382, 398, 419, 432, 450] (tMsg.map (fun q => Cond.exactly (.string q.1 q.2.1) "java/lang/String")) = true := by decide +kernel
theorem wl_Kok : ∀ q ∈ tStr, q.2.2.2 < 14 ∧ tSk q.2.2.2 = (q.1, q.2.1, q.2.2.1) := by decide +kernel
theorem qTx_int : ∀ k, k < 14 → ∀ j, j < (qTx k).length → (qTx k).getD j .null = .int (vI ((qTx k).getD j .null)) := by decide +kernel
section WLD
variable {s : State} {args : Array Value}
theorem wl_cls (hts : ∀ w ∈ GW, w.before args s = true) : ∃ D : va_G, ∀ (c : Nat) (q : vw_C), qCl[c]? = some q → u_Kn s q.1 q.2.1 q.2.2 (D.1 c) (D.2 c) := by
  have h0 : ∀ ci : Nat, ∃ p : ClassId × (Nat → Nat), ci < 11 → u_Kn s (tCls.getD ci "") (tFl ci) (tN.getD ci 0) p.1 p.2 := by
    intro ci
    have one : ∀ k, k < 11 → ∃ p : ClassId × (Nat → Nat), u_Kn s (tCls.getD k "") (tFl k) (tN.getD k 0) p.1 p.2 := fun k hk => by
      obtain ⟨h1, -, -, -, h5, -⟩ := qCls_p hk
      obtain ⟨cC, iS, h⟩ := u_known hts h1 (hts _ h5)
      exact ⟨(cC, iS), h⟩
    by_cases h : ci < 11
    · obtain ⟨p, hp⟩ := one ci h
      exact ⟨p, fun _ => hp⟩
    · obtain ⟨p, -⟩ := one 0 (by decide)
      exact ⟨p, fun q => absurd q h⟩
  obtain ⟨f, hf⟩ := Classical.axiomOfChoice h0
  refine ⟨(fun c => (f c).1, fun c => (f c).2), fun c q hq => ?_⟩
  have hc : c < 11 := (List.getElem?_eq_some_iff.mp hq).1
  rw [qCl_at c hc] at hq
  cases hq
  exact hf c hc
theorem wl_int (h : (Cond.arrayClass .int).before args s = true) : ∃ cA, ArrOfT s cA .int ∧ va_RA s cA .int := by
  obtain ⟨cA, kA, comp, h1, h2, h3⟩ := Cond.arrayClass_spec h
  exact ⟨cA, fun n z => ⟨fun k h => (by cases h), kA, h2, comp, h3⟩, h1⟩
theorem wl_long (h : (Cond.arrayClass .long).before args s = true) : ∃ cA, ArrOfT s cA .long ∧ va_RA s cA .long := by
  obtain ⟨cA, kA, comp, h1, h2, h3⟩ := Cond.arrayClass_spec h
  exact ⟨cA, fun n z => ⟨fun k h => (by cases h), kA, h2, comp, h3⟩, h1⟩
theorem wl_byte (h : (Cond.arrayClass .byte).before args s = true) : ∃ cA, ArrOfT s cA .byte ∧ va_RA s cA .byte := by
  obtain ⟨cA, kA, comp, h1, h2, h3⟩ := Cond.arrayClass_spec h
  exact ⟨cA, fun n z => ⟨fun k h => (by cases h), kA, h2, comp, h3⟩, h1⟩
theorem wl_char (h : (Cond.arrayClass .char).before args s = true) : ∃ cA, ArrOfT s cA .char ∧ va_RA s cA .char := by
  obtain ⟨cA, kA, comp, h1, h2, h3⟩ := Cond.arrayClass_spec h
  exact ⟨cA, fun n z => ⟨fun k h => (by cases h), kA, h2, comp, h3⟩, h1⟩
theorem wl_boolean (h : (Cond.arrayClass .boolean).before args s = true) : ∃ cA, ArrOfT s cA .boolean ∧ va_RA s cA .boolean := by
  obtain ⟨cA, kA, comp, h1, h2, h3⟩ := Cond.arrayClass_spec h
  exact ⟨cA, fun n z => ⟨fun k h => (by cases h), kA, h2, comp, h3⟩, h1⟩
theorem wl_double (h : (Cond.arrayClass .double).before args s = true) : ∃ cA, ArrOfT s cA .double ∧ va_RA s cA .double := by
  obtain ⟨cA, kA, comp, h1, h2, h3⟩ := Cond.arrayClass_spec h
  exact ⟨cA, fun n z => ⟨fun k h => (by cases h), kA, h2, comp, h3⟩, h1⟩
theorem wl_obj {C : String} (h : (Cond.arrayOver (.object C)).before args s = true) : ∃ cA, ArrOfT s cA (.object C) ∧ va_RA s cA (.object C) := by
  obtain ⟨comp, cA, kA, h1, h2, h3, h4, h5⟩ := Cond.arrayOver_spec h
  exact ⟨cA, fun n z => ⟨fun k h => (by cases h), kA, h3, comp, h4⟩, kA, comp, h3, h4, h1, h5⟩
theorem wl_arr (hts : ∀ w ∈ lw_tbl, w.before args s = true) : ∃ aC : Nat → ClassId, ∀ (k : Nat) (q : ClassId × FieldType), (qTys aC)[k]? = some q → ArrOfT s q.1 q.2 ∧ va_RA s q.1 q.2 := by
  obtain ⟨a0, h0⟩ := wl_int (hts _ (List.mem_of_getElem? (i := 402) (by decide +kernel)))
  obtain ⟨a1, h1⟩ := wl_long (hts _ (List.mem_of_getElem? (i := 124) (by decide +kernel)))
  obtain ⟨a2, h2⟩ := wl_byte (hts _ (List.mem_of_getElem? (i := 629) (by decide +kernel)))
  obtain ⟨a3, h3⟩ := wl_char (hts _ (List.mem_of_getElem? (i := 334) (by decide +kernel)))
  obtain ⟨a4, h4⟩ := wl_boolean (hts _ (List.mem_of_getElem? (i := 1399) (by decide +kernel)))
  obtain ⟨a5, h5⟩ := wl_double (hts _ (List.mem_of_getElem? (i := 1911) (by decide +kernel)))
  obtain ⟨b0, g0⟩ := wl_obj (C := "EnvelopeBudget$Book") (hts _ (List.mem_of_getElem? (i := 342) (by decide +kernel)))
  obtain ⟨b1, g1⟩ := wl_obj (C := "EnvelopeBudget$Envelope") (hts _ (List.mem_of_getElem? (i := 102) (by decide +kernel)))
  obtain ⟨b2, g2⟩ := wl_obj (C := "EnvelopeBudget$Fund") (hts _ (List.mem_of_getElem? (i := 104) (by decide +kernel)))
  obtain ⟨b3, g3⟩ := wl_obj (C := "EnvelopeBudget$Payment") (hts _ (List.mem_of_getElem? (i := 106) (by decide +kernel)))
  refine ⟨fun k => if k = 0 then a0 else if k = 1 then a1 else if k = 2 then a2 else if k = 3 then a3 else if k = 4 then a4 else if k = 5 then a5 else if k = 10 then b0 else if k = 12 then b1 else if k = 14 then b2 else b3, fun k q hq => ?_⟩
  match k, hq with
  | 0, hq => cases hq; exact h0
  | 1, hq => cases hq; exact h1
  | 2, hq => cases hq; exact h2
  | 3, hq => cases hq; exact h3
  | 4, hq => cases hq; exact h4
  | 5, hq => cases hq; exact h5
  | 6, hq => cases hq; exact g0
  | 7, hq => cases hq; exact g1
  | 8, hq => cases hq; exact g2
  | 9, hq => cases hq; exact g3
  | k + 10, hq => simp at hq
theorem wl_str {A : Nat → Prop} (hF : ∀ w ∈ wl_F, w.before args s = true) (hA : ∀ a : Nat, a < s.heap.size → ¬ A a) {k : Nat} (hk : k < 14) : ∃ a t : Nat, (tSt k).eval args s none [] s = some (.ref a) ∧ va_O "java/lang/String" a A s s.heap ∧ va_OF "java/lang/String" "coder" "B" (.int 0) a A s s.heap ∧ va_OF "java/lang/String" "value" "[B" (.ref t) a A s s.heap ∧ va_T .byte t (qTx k).length (fun j => (qTx k).getD j .null) A s s.heap := by
  have hm := wl_mem _ _ (wl_Aok k hk)
  have hex := hF _ (hm (Cond.exactly (tSt k) "java/lang/String") List.mem_cons_self)
  have hco := hF _ (hm (Cond.eq (.field (tSt k) "java/lang/String" "coder" "B") (.int 0)) (List.mem_cons_of_mem _ List.mem_cons_self))
  have har := hF _ (hm (Cond.arrayOf (.field (tSt k) "java/lang/String" "value" "[B") .byte) (List.mem_cons_of_mem _ (List.mem_cons_of_mem _ List.mem_cons_self)))
  have hle := hF _ (hm (Cond.eq (.length (.field (tSt k) "java/lang/String" "value" "[B")) (.int (Int32.ofNat (qTx k).length))) (List.mem_cons_of_mem _ (List.mem_cons_of_mem _ (List.mem_cons_of_mem _ List.mem_cons_self))))
  have hel : ∀ j, j < (qTx k).length → (Cond.eq (.elem (.field (tSt k) "java/lang/String" "value" "[B") (.int (Int32.ofNat j))) (.int (vI ((qTx k).getD j .null)))).before args s = true := fun j hj =>
    hF _ (hm _ (List.mem_cons_of_mem _ (List.mem_cons_of_mem _ (List.mem_cons_of_mem _ (List.mem_cons_of_mem _ (List.mem_map.mpr ⟨j, List.mem_range.mpr hj, rfl⟩))))))
  obtain ⟨a, c, cA, kA, q1, q2, q3, q4, q5, q6, -⟩ := Cond.exactly_spec (args := args) (first := s) (o := none) (s := s) (idx := []) (t := tSt k) (cls := "java/lang/String") hex
  have hl8 := qTx_len k hk
  obtain ⟨t, ht, hT⟩ := va_Tof (f := fun j => (qTx k).getD j .null) (A := A) (by omega) har (va_eqt hle) (fun j hj => by
    have := va_eqt (hel j hj)
    rw [← qTx_int k hk j hj] at this
    exact this) hA
  exact ⟨a, t, q1, ⟨cA, q3, q5, by rw [q6]; exact q2, hA a (Array.getElem?_eq_some_iff.mp q3).1⟩, vk_OFof q1 (va_eqt hco) hA, vk_OFof q1 ht hA, hT⟩
theorem wl_fx {b L : Nat} {xs : Nat → Int32} (hts : ∀ w ∈ lw_tbl, w.before args s = true) (hg : (Jvm.Cond.and given_1 narrow_1).before args s = true) (hX : va_X b L xs s s.heap) (hbl : b < s.heap.size) : ∃ z : qE, z.1 = s.heap.size ∧ z.2.2.2.1 = s.heap ∧ qFx z (b, L, xs, z.2.2.2.2) s := by
  have hF : ∀ w ∈ wl_F, w.before args s = true := flat_of_before _ hg
  have hA : ∀ a : Nat, a < s.heap.size → ¬ (fun q : Nat => s.heap.size ≤ q) a := fun a h => Nat.not_le.mpr h
  have hGW : ∀ w ∈ GW, w.before args s = true := fun w hw => hts w (List.mem_filter.mp hw).1
  obtain ⟨D, hD⟩ := wl_cls hGW
  obtain ⟨aC, haC⟩ := wl_arr hts
  have h0 : ∀ k : Nat, ∃ p : Nat × Nat, k < 14 → (tSt k).eval args s none [] s = some (.ref p.1) ∧ va_O "java/lang/String" p.1 (fun q : Nat => s.heap.size ≤ q) s s.heap ∧ va_OF "java/lang/String" "coder" "B" (.int 0) p.1 (fun q : Nat => s.heap.size ≤ q) s s.heap ∧ va_OF "java/lang/String" "value" "[B" (.ref p.2) p.1 (fun q : Nat => s.heap.size ≤ q) s s.heap ∧ va_T .byte p.2 (qTx k).length (fun j => (qTx k).getD j .null) (fun q : Nat => s.heap.size ≤ q) s s.heap := by
    intro k
    by_cases hk : k < 14
    · obtain ⟨a, t, h⟩ := wl_str hF hA hk
      exact ⟨(a, t), fun _ => h⟩
    · exact ⟨(0, 0), fun h => absurd h hk⟩
  obtain ⟨ad, had⟩ := Classical.axiomOfChoice h0
  refine ⟨(s.heap.size, D, aC, s.heap, fun k => if k < 14 then (ad k).1 else (ad (k - 14)).2), rfl, rfl, ⟨hD, haC⟩, ⟨hbl, hX, rfl⟩, ?_, ?_, ?_, ?_, fun k hk => ?_, fun q hq => ?_, fun q hq => ?_, ?_, rfl⟩
  · exact vx_Zqof (hts (.laysStatic "java/lang/Throwable" "UNASSIGNED_STACK" "[Ljava/lang/StackTraceElement;") (List.mem_of_getElem? (i := 771) (by decide +kernel))) (hts (.initialized "java/lang/Throwable") (List.mem_of_getElem? (i := 81) (by decide +kernel))) (hF _ (List.mem_of_getElem? (i := 9) (by decide +kernel))) hA
  · exact vx_Zqof (hts (.laysStatic "java/lang/Throwable" "SUPPRESSED_SENTINEL" "Ljava/util/List;") (List.mem_of_getElem? (i := 773) (by decide +kernel))) (hts (.initialized "java/lang/Throwable") (List.mem_of_getElem? (i := 81) (by decide +kernel))) (hF _ (List.mem_of_getElem? (i := 10) (by decide +kernel))) hA
  · exact va_Zof (hts (.laysStatic "java/lang/String" "COMPACT_STRINGS" "Z") (List.mem_of_getElem? (i := 473) (by decide +kernel))) (hts (.initialized "java/lang/String") (List.mem_of_getElem? (i := 75) (by decide +kernel))) (va_eqi (hF _ (List.mem_of_getElem? (i := 4) (by decide +kernel)))) hA
  · exact va_Zqof (hts (.laysStatic "jdk/internal/util/Preconditions" "SIOOBE_FORMATTER" "Ljava/util/function/BiFunction;") (List.mem_of_getElem? (i := 489) (by decide +kernel))) (hts (.initialized "jdk/internal/util/Preconditions") (List.mem_of_getElem? (i := 77) (by decide +kernel))) (hF _ (List.mem_of_getElem? (i := 5) (by decide +kernel))) hA
  · obtain ⟨q1, q2, q3, q4, q5⟩ := had k hk
    have e1 : (if k < 14 then (ad k).1 else (ad (k - 14)).2) = (ad k).1 := if_pos hk
    have e2 : (if k + 14 < 14 then (ad (k + 14)).1 else (ad (k + 14 - 14)).2) = (ad k).2 := by
      rw [if_neg (by omega), Nat.add_sub_cancel]
    unfold qStr1
    dsimp only
    rw [e1, e2]
    refine ⟨?_, q2, q3, q4, q5⟩
    obtain ⟨cell, h1, -⟩ := q2
    exact (Array.getElem?_eq_some_iff.mp h1).1
  · obtain ⟨hk, e⟩ := wl_Kok q hq
    have h1 := hts _ (wl_mem _ _ wl_Sok (Cond.stringRef q.1 q.2.1 q.2.2.1) (List.mem_map.mpr ⟨q, hq, rfl⟩))
    have h2 := (had q.2.2.2 hk).1
    unfold tSt at h2
    rw [e] at h2
    dsimp only
    rw [if_pos hk]
    exact vk_R.of h1 h2
  · have h1 := hts _ (wl_mem _ _ wl_Mok (Cond.stringRef q.1 q.2.1 q.2.2) (List.mem_map.mpr ⟨q, hq, rfl⟩))
    have h2 := hF _ (wl_mem _ _ wl_Eok (Cond.exactly (.string q.1 q.2.1) "java/lang/String") (List.mem_map.mpr ⟨q, hq, rfl⟩))
    obtain ⟨a, c, cA, kA, q1, -⟩ := Cond.exactly_spec (args := args) (first := s) (o := none) (s := s) (idx := []) (t := .string q.1 q.2.1) (cls := "java/lang/String") h2
    exact ⟨a, vk_R.of h1 q1⟩
  · exact va_Nc.of (hF _ (List.mem_of_getElem? (i := 34) (by decide +kernel)))
/-- two texts at one place are one text; the script lies at none -/
theorem wl_one {A : Nat → Prop} {H : Heap} {a t t' k k' : Nat} (hk : k < 14) (hk' : k' < 14) (h1 : va_OF "java/lang/String" "value" "[B" (.ref t) a A s H) (h2 : va_T .byte t (qTx k).length (fun j => (qTx k).getD j .null) A s H) (g1 : va_OF "java/lang/String" "value" "[B" (.ref t') a A s H) (g2 : va_T .byte t' (qTx k').length (fun j => (qTx k').getD j .null) A s H) : qTx k = qTx k' := by
  obtain ⟨cf, kf, i, f, cell, a1, a2, a3, a4, a5, -⟩ := h1
  obtain ⟨cf', kf', i', f', cell', b1, b2, b3, b4, b5, -⟩ := g1
  cases a1.symm.trans b1
  cases a3.symm.trans b3
  cases a5.symm.trans b5
  obtain ⟨c1, d1, -, -, -, d5, d6, -⟩ := h2
  obtain ⟨c2, e1, -, -, -, e5, e6, -⟩ := g2
  cases d1.symm.trans e1
  have l1 := qTx_len k hk
  have l2 := qTx_len k' hk'
  have hl : (qTx k).length = (qTx k').length := by
    have := congrArg Int32.toInt (d5.symm.trans e5)
    have q1 : (Int32.ofNat (qTx k).length).toInt = ((qTx k).length : Int) := nI_32 (by omega)
    have q2 : (Int32.ofNat (qTx k').length).toInt = ((qTx k').length : Int) := nI_32 (by omega)
    rw [q1, q2] at this
    omega
  apply List.ext_getElem?
  intro j
  by_cases hj : j < (qTx k).length
  · have := (d6 j hj).symm.trans (e6 j (by omega))
    have q := Option.some.inj this
    dsimp only at q
    rw [List.getD_eq_getElem?_getD, List.getD_eq_getElem?_getD, List.getElem?_eq_getElem hj, List.getElem?_eq_getElem (by omega), Option.getD_some, Option.getD_some] at q
    rw [List.getElem?_eq_getElem hj, List.getElem?_eq_getElem (by omega), q]
  · rw [List.getElem?_eq_none (by omega), List.getElem?_eq_none (by omega)]
theorem wl_scr {A : Nat → Prop} {H : Heap} {b L t : Nat} {xs : Nat → Int32} (hX : va_X b L xs s H) (h1 : va_OF "java/lang/String" "value" "[B" (.ref t) b A s H) : False := by
  obtain ⟨cf, kf, i, f, cell, a1, a2, a3, a4, a5, -⟩ := h1
  obtain ⟨scr, x1, -, -, x4, x5⟩ := hX
  cases a3.symm.trans x1
  have hf := (Array.getElem?_eq_some_iff.mp a5).1
  have := (x5 f.slot (by rw [← x4]; exact hf)).symm.trans a5
  cases this
def txd (k : Nat) : Nat → Int64 := fun j => (vI ((qTx k).getD j .null)).toInt64
theorem txd_cell {k : Nat} (hk : k < 14) : qCell (.inl (99, (qTx k).map (fun _ => (0, 0)))) (txd k) = .inr (99, qTx k) := by
  unfold qCell
  dsimp only
  refine congrArg (fun z => (Sum.inr (99, z) : qAC)) ?_
  apply List.ext_getElem?
  intro j
  rw [List.getElem?_mapIdx, List.getElem?_map]
  by_cases hj : j < (qTx k).length
  · have q := qTx_int k hk j hj
    rw [List.getD_eq_getElem?_getD, List.getElem?_eq_getElem hj, Option.getD_some] at q
    rw [List.getElem?_eq_getElem hj, Option.map_some, Option.map_some]
    unfold txd
    rw [List.getD_eq_getElem?_getD, List.getElem?_eq_getElem hj, Option.getD_some]
    show some (Value.int (vI (qTx k)[j]).toInt64.toInt32) = _
    rw [i64_32, ← q]
  · rw [List.getElem?_eq_none (by omega)]
    rfl
/-- the memory at the start: the constants' texts -/
theorem wl_mk {z : qE} {G : qG} (hfx : qFx z G s) : ∃ (y : Nat → Option qSh) (μ : qMu), y G.1 = none ∧ TX G y μ z.1 ∧ qSim z (MK y μ z.1 0) z.2.2.2.1 := by
  obtain ⟨h1, ⟨h2a, h2b, h2c⟩, h3, h4, h5, h6, h7, h8, h9, h10, h11⟩ := hfx
  have h0 : ∀ a : Nat, ∃ p : Option qSh × (Nat → Int64), (∀ k, k < 14 → z.2.2.2.2 k = a → p = (some (.inl (99, (qTx k).map (fun _ => (0, 0)))), txd k)) ∧ ((∀ k, k < 14 → z.2.2.2.2 k ≠ a) → p.1 = none) := by
    intro a
    by_cases h : ∃ k, k < 14 ∧ z.2.2.2.2 k = a
    · obtain ⟨k, hk, e⟩ := h
      refine ⟨(some (.inl (99, (qTx k).map (fun _ => (0, 0)))), txd k), fun k' hk' e' => ?_, fun q => absurd e (q k hk)⟩
      obtain ⟨-, -, -, q4, q5⟩ := h7 k hk
      obtain ⟨-, -, -, r4, r5⟩ := h7 k' hk'
      rw [e] at q4
      rw [e'] at r4
      have := wl_one hk hk' q4 q5 r4 r5
      unfold txd
      rw [this]
    · exact ⟨(none, fun _ => 0), fun k hk e => absurd ⟨k, hk, e⟩ h, fun _ => rfl⟩
  obtain ⟨f, hf⟩ := Classical.axiomOfChoice h0
  refine ⟨fun a => (f a).1, fun a => (f a).2, ?_, fun k hk => ?_, ⟨h2c, Nat.le_refl _, fun _ _ => rfl, fun a c hc => ?_⟩⟩
  · refine (hf G.1).2 fun k hk e => ?_
    obtain ⟨-, -, -, q4, -⟩ := h7 k hk
    rw [e] at q4
    exact wl_scr h2b q4
  · rw [h11]
    refine ⟨(h7 k hk).1, fun n s => ?_⟩
    have e := (hf (z.2.2.2.2 k)).1 k hk rfl
    unfold qStr
    rw [MK_at]
    try dsimp only
    rw [e]
    dsimp only [Option.map_some]
    rw [txd_cell hk]
    first | done | rfl
  · rw [MK_at] at hc
    try dsimp only at hc
    by_cases h : ∃ k, k < 14 ∧ z.2.2.2.2 k = a
    · obtain ⟨k, hk, e⟩ := h
      have e2 := (hf a).1 k hk e
      rw [e2] at hc
      dsimp only [Option.map_some] at hc
      rw [txd_cell hk] at hc
      cases hc
      unfold qAt
      dsimp only
      rw [if_pos rfl]
      exact ⟨k, hk, e.symm, by rw [← e]; exact (h7 k hk).1, rfl⟩
    · have e2 := (hf a).2 fun k hk e => h ⟨k, hk, e⟩
      rw [e2] at hc
      cases hc
end WLD
