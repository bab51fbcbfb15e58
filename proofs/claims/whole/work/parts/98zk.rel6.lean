/-! ===== Relation of the rows, 6: allotting, rolling over, a day ===== -/
section REL6
variable {N a e f i b p : Nat} {C D : Row} {k : Nat} {v w : Int64}
theorem key_i {x : Int64} {c q : Nat} (hx : -1 ≤ x.toInt ∧ x.toInt < 2 ^ 30) (hc : c ≤ 1000) (hq : q < 1000) : (x.toInt32.toInt64 * 1000 + Int64.ofNat c + (nI q).toInt64).toInt = x.toInt * 1000 + c + q := by
  rw [i64_32r (by omega) (by omega)]
  have e1 : (x * 1000).toInt = x.toInt * 1000 := by
    rw [Int64.toInt_mul, show (1000 : Int64).toInt = 1000 from rfl]
    exact Int.bmod_eq_of_le (by omega) (by omega)
  have ec : (Int64.ofNat c).toInt = (c : Int) := Int64.toInt_ofNat_of_lt (by omega)
  have eq := nI64 (k := q) (by omega)
  have e2 : (x * 1000 + Int64.ofNat c).toInt = x.toInt * 1000 + c := by rw [ia (by rw [e1, ec]; omega) (by rw [e1, ec]; omega), e1, ec]
  rw [ia (by rw [e2, eq]; omega) (by rw [e2, eq]; omega), e2, eq]
theorem k1000 {x : Int64} {n r : Int} (h : x.toInt = n * 1000 + r) (hn : 0 ≤ n ∧ n < 2 ^ 40) (hr : 0 ≤ r ∧ r < 1000) : (x - x / 1000 * 1000).toInt = r := by
  have e1 : (x / 1000).toInt = n := by
    rw [Int64.toInt_div, show (1000 : Int64).toInt = 1000 from rfl, Int.tdiv_eq_ediv_of_nonneg (by omega), h]
    rw [Int.bmod_eq_of_le (by omega) (by omega)]
    omega
  have e2 : (x / 1000 * 1000).toInt = n * 1000 := by
    rw [Int64.toInt_mul, e1, show (1000 : Int64).toInt = 1000 from rfl]
    exact Int.bmod_eq_of_le (by omega) (by omega)
  rw [is_ (by omega) (by omega), e2, h]
  omega
theorem m1_32 {x : Int64} (hx : -1 ≤ x.toInt ∧ x.toInt < 2 ^ 30) : (x.toInt32 = -1) = (x = -1) := by
  have : (-1 : Int32) = (-1 : Int64).toInt32 := by decide
  rw [this]
  exact eq32 (by omega) (by decide)
theorem need_eq (hJ : J N a e f i b p D) (h : AL a e f i b C D) {q : Nat} (hq : q < f) : kNeed C q (C 6).toInt32 = pNed D q := by
  have hf := hJ.2.1.2.2.1
  have h6 : q < 6 := by omega
  have ht := hJ.ft h6
  have hn := hJ.fn h6
  have hN0 := hJ.1
  have hd := hJ.d6
  unfold kNeed pNed dup
  rw [h.g (lv_f0 hq), h.g (lv_f hq (by decide)), h.g (lv_f hq (by decide)), h.g (lv_8 (by omega)), i64_32r (x := D (73 + 6 * q + 1)) (by omega) (by omega)]
  simp only [m1_32 (x := D (73 + 6 * q + 2)) (by omega)]
  have e1 : ((D (73 + 6 * q + 2)).toInt32 - (D 6).toInt32).toInt64 = D (73 + 6 * q + 2) - D 6 := by
    apply i64_ext
    rw [Int32.toInt_toInt64, Int32.toInt_sub, to32 (by omega) (by omega), to32 (by omega) (by omega), is_ (by omega) (by omega)]
    exact Int.bmod_eq_of_le (by omega) (by omega)
  rw [e1]
  have e30 : mx 1 (30 : Int64) = 30 := by decide
  have emm : ∀ x : Int64, mx 1 (mx 1 x) = mx 1 x := fun x => i64_ext (by rw [mx_i, mx_i]; omega)
  rw [e30, emm]
theorem AL.get (h : AL a e f i b C D) (hk : Live a e f i b k) (hk8 : k ≠ 8) (hk2 : k < 191) (h7 : k ≠ 7) (hv : v = w) (hw : 0 ≤ w.toInt) : AL a e f i b (sv (sv C k (C k + giv (C 7) v)) 7 (sv C k (C k + giv (C 7) v) 7 - giv (C 7) v)) (pGet D k w) := by
  subst hv
  have e1 : giv (C 7) v = mn v (mx 0 (D 7)) := by rw [giv_mn hw, h.g (lv_8 (by omega))]
  have e2 : pGet D k v = sv (sv D k (D k + mn v (mx 0 (D 7)))) 7 (D 7 - mn v (mx 0 (D 7))) := by
    unfold pGet pShf
    funext j
    simp only [sv_get]
    by_cases hj : j = 7
    · rw [if_pos hj, if_neg (by omega), if_pos hj]
    · rw [if_neg hj, if_neg hj, if_neg h7]
  rw [e1, e2]
  refine (h.put hk2 hk8 ?_).put (by omega) (by omega) ?_
  · rw [h.g hk]
  · rw [sv_get, if_neg (Ne.symm h7), h.g (lv_8 (by omega))]
theorem fl_srt : ∀ c, c ≤ 6 → Srt (wF D) (fl D c)
  | 0, _ => List.Pairwise.nil
  | c + 1, hc => by
    have q := fl_srt c (by omega)
    rw [fl]
    split
    · exact q
    · exact q.ins (fun g hg => (fl_mem.mp hg).1) (by omega)
theorem wF_get {g x : Nat} {u : Int64} : wF (pGet D (73 + 6 * g) u) x = wF D x := by
  unfold wF
  exact pGet_o (by omega) (by omega)
theorem fill_F (hf : f ≤ 6) : ∀ (s : List Nat) (m : Nat) (C D : Row) (v : Int64), s.length ≤ m → J N a e f i b p D → AL a e f i b C D → Srt (wF D) s → (∀ x, x ∈ s → x < f ∧ wF D x ≠ -1) → (∀ i, i < f → wF D i ≠ -1 → (i ∈ s ↔ v.toInt < KW (wF D) i + 100)) →
    AL a e f i b (kFillF f m C (keyF C v f)) (pGs D s)
  | [], m, C, D, v, hm, hJ, hA, hS, hs, hv => by
    have hN0 := hJ.1
    have hno : keyF C v f = NOK := by
      unfold keyF
      refine keyL_no fun i hi hn => ?_
      have hw := hJ.fn (q := i) (by omega)
      rw [hA.g (lv_f hi (by decide))] at hn ⊢
      rw [m1_32 (by omega)] at hn
      have := mt (hv i hi hn).mpr List.not_mem_nil
      have hki : ((D (73 + 6 * i + 2)).toInt32.toInt64 * 1000 + 100 + (nI i).toInt64).toInt = (D (73 + 6 * i + 2)).toInt * 1000 + 100 + i := key_i (x := D (73 + 6 * i + 2)) (c := 100) (q := i) (by omega) (by decide) (by omega)
      rw [Int64.le_iff_toInt_le, hki]
      unfold KW wF at this
      omega
    rw [hno]
    cases m with
    | zero => exact hA
    | succ m => rw [kFillF, if_pos rfl]; exact hA
  | x :: s, 0, C, D, v, hm, hJ, hA, hS, hs, hv => absurd hm (by simp)
  | x :: s, m + 1, C, D, v, hm, hJ, hA, hS, hs, hv => by
    have hN0 := hJ.1
    obtain ⟨hx, hxn⟩ := hs x List.mem_cons_self
    have hw := hJ.fn (q := x) (by omega)
    have hcx : C (73 + 6 * x + 2) = D (73 + 6 * x + 2) := hA.g (lv_f hx (by decide))
    have hkx := key_i (x := D (73 + 6 * x + 2)) (c := 100) (q := x) (by omega) (by decide) (by omega)
    have hkx' : ((C (73 + 6 * x + 2)).toInt32.toInt64 * 1000 + 100 + (nI x).toInt64).toInt = (D (73 + 6 * x + 2)).toInt * 1000 + 100 + x := by rw [hcx]; exact hkx
    have hxv := (hv x hx hxn).mp List.mem_cons_self
    have hx0 : 0 ≤ (D (73 + 6 * x + 2)).toInt := by
      refine Int.not_lt.mp fun q => hxn (i64_ext ?_)
      show (D (73 + 6 * x + 2)).toInt = -1
      omega
    obtain ⟨hS1, hS2⟩ := List.pairwise_cons.mp hS
    have hmin : keyF C v f = (C (73 + 6 * x + 2)).toInt32.toInt64 * 1000 + 100 + (nI x).toInt64 := by
      unfold keyF
      refine keyL_min (key := fun i => (C (73 + 6 * i + 2)).toInt32.toInt64 * 1000 + 100 + (nI i).toInt64) hx ?_ ?_ ?_ fun i hi hn hvi => ?_
      · rw [hcx, m1_32 (by omega)]; exact hxn
      · rw [Int64.lt_iff_toInt_lt, hkx']
        unfold KW wF at hxv
        omega
      · rw [Int64.lt_iff_toInt_lt, hkx', show NOK.toInt = 9223372036854775807 by decide]
        omega
      · have hwi := hJ.fn (q := i) (by omega)
        rw [hA.g (lv_f hi (by decide))] at hn hvi ⊢
        rw [m1_32 (by omega)] at hn
        have hki := key_i (x := D (73 + 6 * i + 2)) (c := 100) (q := i) (by omega) (by decide) (by omega)
        have hki' : ((D (73 + 6 * i + 2)).toInt32.toInt64 * 1000 + 100 + (nI i).toInt64).toInt = (D (73 + 6 * i + 2)).toInt * 1000 + 100 + i := hki
        rw [Int64.lt_iff_toInt_lt, hki'] at hvi
        have hm := (hv i hi hn).mpr (by unfold KW wF; omega)
        rw [Int64.le_iff_toInt_le, hki', hkx']
        rcases List.mem_cons.mp hm with rfl | hm
        · omega
        · have := hS1 i hm
          unfold KW wF at this
          omega
    have hkix : kix (keyF C v f) = nI x := by
      rw [hmin]
      unfold kix
      have hr := k1000 (x := (C (73 + 6 * x + 2)).toInt32.toInt64 * 1000 + 100 + (nI x).toInt64) (n := (D (73 + 6 * x + 2)).toInt) (r := 100 + x) (by rw [hkx']; omega) (by omega) (by omega)
      generalize (C (73 + 6 * x + 2)).toInt32.toInt64 * 1000 + 100 + (nI x).toInt64 = K at hr ⊢
      have := i64_nat (x := K - K / 1000 * 1000) (by omega) (by omega)
      rw [this, i64_32, hr, show ((100 : Int) + (x : Int)).toNat = 100 + x by omega]
      exact mI_sub (p := 100 + x) (a := 100) (by omega) |>.trans (by congr 1; omega)
    have hne : ¬ keyF C v f = NOK := by
      intro q
      rw [hmin] at q
      have := congrArg Int64.toInt q
      rw [hkx', show NOK.toInt = 9223372036854775807 by decide] at this
      omega
    rw [kFillF, if_neg hne, hkix]
    have hstep : AL a e f i b (kFillF1 C (nI x)) (pGet D (73 + 6 * x) (pNed D x)) := by
      unfold kFillF1
      rw [if_pos (by rw [hA.c2 hJ]; exact c_in hx (by omega)), nI_clamp (by omega)]
      exact hA.get (lv_f0 hx) (by omega) (by omega) (by omega) (need_eq hJ hA hx) (pNed_b hJ (by omega)).1
    have hJ2 : J N a e f i b p (pGet D (73 + 6 * x) (pNed D x)) := hJ.getF (by omega)
    have eW : wF (pGet D (73 + 6 * x) (pNed D x)) = wF D := by funext g; exact wF_get
    refine fill_F hf s m (kFillF1 C (nI x)) (pGet D (73 + 6 * x) (pNed D x)) (keyF C v f) (by simpa using hm) hJ2 hstep (by rw [eW]; exact hS2) (by rw [eW]; exact fun y hy => hs y (List.mem_cons_of_mem _ hy)) ?_
    rw [eW, hmin, hkx']
    intro i hi hn
    constructor
    · intro hm
      have := hS1 i hm
      unfold KW wF at this ⊢
      omega
    · intro hlt
      have hm := (hv i hi hn).mpr (by unfold KW wF at hxv hlt ⊢; omega)
      rcases List.mem_cons.mp hm with rfl | hm
      · unfold KW wF at hlt
        omega
      · exact hm
theorem AL.fillE : ∀ k (C D : Row), k ≤ e → J N a e f i b p D → AL a e f i b C D → AL a e f i b (kFillE C k) (pEn D k)
  | 0, C, D, _, _, h => h
  | k + 1, C, D, hk, hJ, h => by
    have q := AL.fillE k C D (by omega) hJ h
    have he := hJ.2.1.2.1
    have j := hJ.en k (by omega)
    have hm := j.2.2 (13 + 6 * k + 1)
    rw [jB_E (by omega) (by decide)] at hm
    simp only [Nat.reduceEqDiff, if_false, if_true] at hm
    unfold IB at hm
    dsimp only at hm
    rw [kFillE, pEn]
    exact q.get (lv_e0 (by omega)) (by omega) (by omega) (by omega) (by rw [q.g (lv_e (by omega) (by decide)), i64_32r (by omega) (by omega)]) hm.1
theorem AL.fill (hJ : J N a e f i b p D) (h : AL a e f i b C D) : AL a e f i b (kFill C e f) (pAll D e f) := by
  have hf := hJ.2.1.2.2.1
  unfold kFill pAll
  have hl := fl_len (D := D) f
  refine AL.fillE e _ _ (Nat.le_refl _) (hJ.gs _ _ fun g hg => by have := (fl_mem.mp hg).1; omega) (fill_F hf (fl D f) f C D (-1) hl hJ h (fl_srt f hf) (fun x hx => fl_mem.mp hx) fun i hi hn => ⟨fun _ => ?_, fun _ => fl_mem.mpr ⟨hi, hn⟩⟩)
  have hw := hJ.fn (q := i) (by omega)
  have hi0 : 0 ≤ (D (73 + 6 * i + 2)).toInt := by
    refine Int.not_lt.mp fun q => hn (i64_ext ?_)
    show (D (73 + 6 * i + 2)).toInt = -1
    omega
  rw [ivm1]
  unfold KW wF
  omega
theorem roll_eq (hJ : J N a e f i b p D) (h : AL a e f i b C D) {q : Nat} (hq : q < e) : kRoll C q = if D (13 + 6 * q) ≤ 0 then 0 else mx 0 (D (13 + 6 * q) - pKep D q) := by
  have he := hJ.2.1.2.1
  have h1 := hJ.2.2 (13 + 6 * q + 2)
  have h2 := hJ.2.2 (13 + 6 * q + 3)
  rw [jB_E (by omega) (by decide)] at h1 h2
  simp only [Nat.reduceEqDiff, if_false, if_true] at h1 h2
  unfold IB at h1 h2
  dsimp only at h1 h2
  unfold kRoll pKep
  rw [h.g (lv_e0 hq), h.g (lv_e hq (by decide)), h.g (lv_e hq (by decide)), i64_32r (x := D (13 + 6 * q + 3)) (by omega) (by omega)]
  have m1 : ((D (13 + 6 * q + 2)).toInt32 = 1) = (D (13 + 6 * q + 2) = 1) := by
    rw [show (1 : Int32) = (1 : Int64).toInt32 by decide]; exact eq32 (by omega) (by decide)
  have m0 : ((D (13 + 6 * q + 2)).toInt32 = 0) = (D (13 + 6 * q + 2) = 0) := by
    rw [show (0 : Int32) = (0 : Int64).toInt32 by decide]; exact eq32 (by omega) (by decide)
  simp only [m1, m0]
  generalize D (13 + 6 * q) = x
  generalize D (13 + 6 * q + 2) = m
  generalize D (13 + 6 * q + 3) = c
  by_cases hx : x ≤ 0
  · rw [if_pos (Or.inl hx), if_pos hx]
  · rw [if_neg hx]
    have hx0 : 0 < x.toInt := by rw [Int64.le_iff_toInt_le, iv0] at hx; omega
    by_cases h1 : m = 1
    · subst h1
      rw [if_pos (Or.inr rfl), if_neg (by decide), if_pos rfl, Int64.sub_self]
      rfl
    · rw [if_neg (fun q => q.elim hx h1), if_neg h1]
      by_cases h0 : m = 0
      · rw [if_pos h0, if_pos h0, Int64.sub_zero]
        exact i64_ext (by rw [mx_i, iv0]; omega)
      · rw [if_neg h0, if_neg h0]
theorem AL.rla : ∀ k, k ≤ e → J N a e f i b p D → AL a e f i b C D → AL a e f i b (kRollA C k) (pRlA D k)
  | 0, _, _, h => h
  | k + 1, hk, hJ, h => by
    have q := AL.rla k (by omega) hJ h
    have he := hJ.2.1.2.1
    have j := hJ.rla k (by omega)
    rw [kRollA, pRlA]
    unfold pRl pShf
    rw [roll_eq j q (by omega)]
    refine (q.put (by omega) (by omega) ?_).put (by omega) (by omega) ?_
    · rw [q.g (lv_e0 (by omega))]
    · have n7 : ¬ 7 = 13 + 6 * k := by omega
      simp only [sv_get, if_neg n7, q.g (lv_8 (show 7 < 8 by omega))]
theorem AL.mon (hJ : J N a e f i b p D) (h : AL a e f i b C D) : AL a e f i b (kMonth C e f) (pMon D e f) := by
  have he := hJ.2.1.2.1
  have q := AL.rla e (Nat.le_refl _) hJ h
  have j := hJ.rla e he
  have q2 := q.fill j
  have j2 := j.all
  unfold kMonth pMon
  dsimp only
  have e7 : kRollA C e 7 = pRlA D e 7 := q.g (lv_8 (by omega))
  have e72 : kFill (kRollA C e) e f 7 = pAll (pRlA D e) e f 7 := q2.g (lv_8 (by omega))
  rw [e7, e72]
  refine q2.log j2 ?_
  have e6 : kRollA C e 6 = pRlA D e 6 := q.g (lv_8 (by omega))
  rw [e6, pAll_o (by omega) (fun g => by omega) (fun g => by omega)]
  have := j.d6
  exact i64_32r (by omega) (by omega)
theorem AL.mid (hJ : J N a e f i b p D) (h : AL a e f i b C D) : AL a e f i b (kDayM C e f) (pMid D e f) := by
  have hd := hJ.d6
  unfold kDayM pMid
  have e1 : ((C 6).toInt32 - (C 6).toInt32 / 30 * 30 = 0) = (D 6 - D 6 / 30 * 30 = 0) := by
    rw [h.g (lv_8 (by omega))]
    obtain ⟨k, hk, hk2⟩ : ∃ k, k ≤ 22000 ∧ D 6 = (nI k).toInt64 := ⟨(D 6).toInt.toNat, by omega, i64_nat hd.1 (by omega)⟩
    rw [hk2, i64_32]
    have o30 : (30 : Int32).toInt = 30 := rfl
    have q1 : (nI k - nI k / 30 * 30).toInt = (k : Int) % 30 := by
      have e1 : (nI k / 30).toInt = (k : Int) / 30 := by
        rw [Int32.toInt_div, nI_32 (by omega), o30, Int.tdiv_eq_ediv_of_nonneg (by omega)]
        exact Int.bmod_eq_of_le (by omega) (by omega)
      have e2 : (nI k / 30 * 30).toInt = (k : Int) / 30 * 30 := by
        rw [Int32.toInt_mul, e1, o30]
        exact Int.bmod_eq_of_le (by omega) (by omega)
      rw [Int32.toInt_sub, e2, nI_32 (by omega), Int.bmod_eq_of_le (by omega) (by omega)]
      omega
    have q2 : ((nI k).toInt64 - (nI k).toInt64 / 30 * 30).toInt = (k : Int) % 30 := by
      have e0 := nI64 (k := k) (by omega)
      have e1 : ((nI k).toInt64 / 30).toInt = (k : Int) / 30 := by
        rw [Int64.toInt_div, e0, show (30 : Int64).toInt = 30 from rfl, Int.tdiv_eq_ediv_of_nonneg (by omega)]
        exact Int.bmod_eq_of_le (by omega) (by omega)
      have e2 : ((nI k).toInt64 / 30 * 30).toInt = (k : Int) / 30 * 30 := by
        rw [Int64.toInt_mul, e1, show (30 : Int64).toInt = 30 from rfl]
        exact Int.bmod_eq_of_le (by omega) (by omega)
      rw [is_ (by omega) (by omega), e2, e0]
      omega
    refine propext ⟨fun h => i64_ext ?_, fun h => Int32.toInt_inj.mp ?_⟩
    · rw [q2, iv0, ← q1, h]; rfl
    · rw [q1, ← q2, h]; rfl
  simp only [e1]
  split
  · exact h.mon hJ
  · exact h
theorem AL.day (hJ : J N a e f i b p D) (h : AL a e f i b C D) (hd : (D 6).toInt < 22000) (hN : N + 17 < 2 ^ 20) : AL a e f i b (kDay C e f i b) (pBeg D e f i b) := by
  have hd0 := hJ.d6
  have hc := hJ.2.1
  unfold Jc at hc
  unfold kDay pBeg
  have s1 : AL a e f i b (sv C 6 ((C 6).toInt32 + 1).toInt64) (sv D 6 (D 6 + 1)) := h.put (by omega) (by omega) (by rw [h.g (lv_8 (by omega))]; exact p1_32 (by omega))
  have j1 := hJ.day hd
  have s2 := s1.incs j1 i (Nat.le_refl _) (by omega)
  have j2 := j1.incs i (Nat.le_refl _) (by omega)
  have s3 := s2.mid j2
  have j3 := j2.mid (by omega)
  exact s3.bls j3 b (Nat.le_refl _) (by omega)
end REL6
