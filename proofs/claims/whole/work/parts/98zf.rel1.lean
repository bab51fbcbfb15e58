/-! ===== Relation of the class' row with the model's, 1 ===== -/
/-- the log's entries -/
def LgR (C D : Row) : Prop := ∃ l, l ≤ 2 ^ 20 ∧ D 8 = (nI l).toInt64 ∧ (C 391).toInt32 = nI (min 40 l) ∧ (C 392).toInt32 = nI (l % 40) ∧ ∀ q, q < min 40 l → ∀ w, w < 5 → C (191 + 5 * ((q + 1) % 40) + w) = D (191 + 5 * q + w)
def AL (a e f i b : Nat) (C D : Row) : Prop := Ag a e f i b C D ∧ LgR C D
theorem nI_32 {k : Nat} (h : k < 2 ^ 31) : (nI k).toInt = (k : Int) := by
  have := nI64 h
  rwa [Int32.toInt_toInt64] at this
theorem to32 {x : Int64} (h0 : -2 ^ 31 ≤ x.toInt) (h1 : x.toInt < 2 ^ 31) : x.toInt32.toInt = x.toInt := by
  have := congrArg Int64.toInt (i64_32r h0 h1)
  rwa [Int32.toInt_toInt64] at this
theorem eq32 {x y : Int64} (hx : -2 ^ 31 ≤ x.toInt ∧ x.toInt < 2 ^ 31) (hy : -2 ^ 31 ≤ y.toInt ∧ y.toInt < 2 ^ 31) : (x.toInt32 = y.toInt32) = (x = y) := by
  refine propext ⟨fun h => ?_, fun h => by rw [h]⟩
  have := congrArg Int32.toInt64 h
  rwa [i64_32r hx.1 hx.2, i64_32r hy.1 hy.2] at this
theorem g_neg {x : Int64} (hx : -2 ^ 31 < x.toInt ∧ x.toInt < 2 ^ 31) : (-x.toInt32).toInt64 = -x := by
  apply i64_ext
  rw [Int32.toInt_toInt64, in_ (by omega)]
  have e := to32 (x := x) (by omega) (by omega)
  rw [Int32.toInt_neg, e]
  rw [Int.bmod_def]
  omega
theorem i_sub (x v : Int64) : x + -v = x - v := (Int64.sub_eq_add_neg x v).symm
section REL1
variable {N a e f i b p : Nat} {C D : Row} {k : Nat} {v w : Int64}
theorem AL.g (h : AL a e f i b C D) (hk : Live a e f i b k) : C k = D k := h.1 k hk
theorem AL.put (h : AL a e f i b C D) (hk : k < 191) (h8 : k ≠ 8) (hv : v = w) : AL a e f i b (sv C k v) (sv D k w) := by
  refine ⟨h.1.put hv, ?_⟩
  obtain ⟨l, h0, h1, h2, h3, h4⟩ := h.2
  refine ⟨l, h0, ?_, ?_, ?_, fun q hq w hw => ?_⟩
  · rw [sv_get, if_neg (Ne.symm h8)]; exact h1
  · rw [sv_get, if_neg (by omega)]; exact h2
  · rw [sv_get, if_neg (by omega)]; exact h3
  · rw [sv_get, if_neg (by omega), sv_get, if_neg (by omega)]; exact h4 q hq w hw
theorem lgQ_of {l : Nat} (hl : l ≤ 2 ^ 20) (h : D 8 = (nI l).toInt64) : lgQ D = l % 40 := by
  have e : (D 8).toInt = (l : Int) := by rw [h, nI64 (by omega)]
  have := (lgq_n (x := D 8) (by omega) (by omega)).1
  unfold lgQ
  rw [this, nI_clamp (by omega), e, Int.toNat_natCast]
theorem AL.log0 (hc : Jc a e f i b p) (h8 : (D 8).toInt < 2 ^ 20) (h : AL a e f i b C D) {K z : Int32} {x u : Int64} {d : Int32} (hd : d.toInt64 = D 6) : AL a e f i b (kEnter C K d z x u) (pLog D (lgQ D) K z x u) := by
  obtain ⟨l, h0, h1, h2, h3, h4⟩ := h.2
  have hlN : l < 2 ^ 20 := by
    rw [h1, nI64 (by omega)] at h8
    omega
  have hq : lgQ D = l % 40 := lgQ_of h0 h1
  have hl : lat C = l % 40 := by unfold lat; rw [h3, nI_clamp (by omega)]
  have hm : (l % 40 + 1) % 40 = (l + 1) % 40 := by omega
  constructor
  · intro j hj
    have hj2 : j < 191 ∧ j ≠ 8 ∧ j ≠ 391 ∧ j ≠ 392 := by
      have h5 := hj
      unfold Live at h5
      unfold Jc at hc
      have : j < 191 := by omega
      have : j ≠ 8 := by omega
      omega
    unfold kEnter pLog
    simp only [sv_get]
    repeat rw [if_neg (by omega)]
    exact h.1 j hj
  · refine ⟨l + 1, by omega, ?_, ?_, ?_, fun q hq2 w hw => ?_⟩
    · unfold pLog
      rw [sv_get, if_pos rfl, h1]
      apply i64_ext
      rw [ia (by rw [nI64 (by omega)]; show _ ≤ (_ : Int) + 1; omega) (by rw [nI64 (by omega)]; show (_ : Int) + 1 < _; omega), nI64 (by omega), nI64 (by omega)]
      rfl
    · unfold kEnter
      rw [hl]
      simp only [sv_get]
      rw [if_neg (by omega), if_neg (by omega), if_neg (by omega), if_neg (by omega), if_neg (by omega), if_pos trivial, h2, i64_32]
      by_cases h40 : l < 40
      · rw [Nat.min_eq_right (by omega), Nat.min_eq_right (by omega), nia1]
        unfold mnI
        rw [if_neg]
        show ¬ nI 40 < nI (l + 1)
        rw [Int32.not_lt, mI_le (by omega) (by omega)]
        omega
      · rw [Nat.min_eq_left (by omega), Nat.min_eq_left (by omega)]
        rfl
    · unfold kEnter
      rw [hl]
      simp only [sv_get]
      rw [if_neg (by omega), if_neg (by omega), if_neg (by omega), if_neg (by omega), if_neg (by omega), if_neg (by omega), if_pos trivial, i64_32, hm]
    · unfold kEnter pLog
      rw [hl, hq]
      simp only [sv_get]
      by_cases hqq : q = l % 40
      · rw [hqq]
        have hw' : w = 0 ∨ w = 1 ∨ w = 2 ∨ w = 3 ∨ w = 4 := by omega
        rcases hw' with rfl | rfl | rfl | rfl | rfl <;>
        (repeat (first | rw [if_pos (by omega)] | rw [if_neg (by omega)])) <;> first | rfl | (rw [hd])
      · have hlt : q < min 40 l := by omega
        have hne : (q + 1) % 40 ≠ (l % 40 + 1) % 40 := by omega
        repeat rw [if_neg (by omega)]
        exact h4 q hlt w hw
theorem AL.log (hJ : J N a e f i b p D) (h : AL a e f i b C D) {K z : Int32} {x u : Int64} {d : Int32} (hd : d.toInt64 = D 6) : AL a e f i b (kEnter C K d z x u) (pLog D (lgQ D) K z x u) := by
  have q1 := hJ.l8
  have q2 := hJ.1
  exact h.log0 hJ.2.1 (by omega) hd
theorem AL.c0 (hJ : J N a e f i b p D) (h : AL a e f i b C D) : (C 0).toInt32 = nI a := by rw [h.g (by unfold Live; omega), hJ.c0, i64_32]
theorem AL.c1 (hJ : J N a e f i b p D) (h : AL a e f i b C D) : (C 1).toInt32 = nI e := by rw [h.g (by unfold Live; omega), hJ.c1, i64_32]
theorem AL.c2 (hJ : J N a e f i b p D) (h : AL a e f i b C D) : (C 2).toInt32 = nI f := by rw [h.g (by unfold Live; omega), hJ.c2, i64_32]
theorem AL.c3 (hJ : J N a e f i b p D) (h : AL a e f i b C D) : (C 3).toInt32 = nI i := by rw [h.g (by unfold Live; omega), hJ.c3, i64_32]
theorem AL.c4 (hJ : J N a e f i b p D) (h : AL a e f i b C D) : (C 4).toInt32 = nI b := by rw [h.g (by unfold Live; omega), hJ.c4, i64_32]
theorem AL.c5 (hJ : J N a e f i b p D) (h : AL a e f i b C D) : (C 5).toInt32 = nI p := by rw [h.g (by unfold Live; omega), hJ.c5, i64_32]
theorem AL.d6 (hJ : J N a e f i b p D) (h : AL a e f i b C D) : C 6 = D 6 ∧ (C 6).toInt32.toInt64 = D 6 := by
  have := hJ.d6
  rw [h.g (by unfold Live; omega)]
  exact ⟨rfl, i64_32r (by omega) (by omega)⟩
theorem AL.ct (hJ : J N a e f i b p D) (h : AL a e f i b C D) : Ok C a e f i b := by
  obtain ⟨l, h0, h1, h2, h3, h4⟩ := h.2
  have := hJ.2.1
  exact ⟨⟨h.c0 hJ, this.1, h.c1 hJ, this.2.1, h.c2 hJ, this.2.2.1, h.c3 hJ, this.2.2.2.1, h.c4 hJ, this.2.2.2.2.1⟩, l % 40, by omega, h3⟩
theorem AL.chg (hJ : J N a e f i b p D) (h : AL a e f i b C D) {x : Nat} (hx : x < a) {v w : Int64} (hv : v = w) : AL a e f i b (kChg C (nI x) v) (sv D (9 + x) (D (9 + x) + w)) := by
  have ha := hJ.2.1.1
  unfold kChg
  rw [if_pos ⟨by show nI 0 ≤ nI x; rw [mI_le (by omega) (by omega)]; omega, by rw [h.c0 hJ, mI_lt (by omega) (by omega)]; exact hx⟩, nI_clamp (by omega)]
  exact h.put (by omega) (by omega) (by rw [h.g (by unfold Live; omega), hv])
/-! ### covering -/
theorem giv_mn {x l : Int64} (hl : 0 ≤ l.toInt) : giv x l = mn l (mx 0 x) := by
  apply i64_ext
  unfold giv
  rw [mx_i, mn_i, mn_i, mx_i, iv0]
  omega
theorem giv_mn2 {x l : Int64} : giv x l = mn (mx 0 l) (mx 0 x) := by
  apply i64_ext
  unfold giv
  rw [mx_i, mn_i, mn_i, mx_i, mx_i, iv0]
  omega
theorem in_min {x : Int64} (h : x.toInt = -2 ^ 63) : mx 0 (-x) = 0 := by
  have : x = Int64.ofInt (-2 ^ 63) := i64_ext (by rw [h]; decide)
  rw [this]
  decide
theorem cov_l {x w : Int64} : mx 0 (-x) - mn (mx 0 (-x)) (mx 0 w) = mx 0 (-(x + mn (mx 0 (-x)) (mx 0 w))) := by
  have r := iR x
  by_cases h : x.toInt = -2 ^ 63
  · rw [in_min h]
    have e0 : mn 0 (mx 0 w) = 0 := i64_ext (by rw [mn_i, mx_i, iv0]; omega)
    rw [e0, Int64.add_zero, in_min h]
    rfl
  · have hn := in_ (x := x) (by omega)
    have ev : (mn (mx 0 (-x)) (mx 0 w)).toInt = min (max 0 (-x.toInt)) (max 0 w.toInt) := by rw [mn_i, mx_i, mx_i, hn, iv0]
    have el : (mx 0 (-x)).toInt = max 0 (-x.toInt) := by rw [mx_i, hn, iv0]
    have es := ia (x := x) (y := mn (mx 0 (-x)) (mx 0 w)) (by rw [ev]; omega) (by rw [ev]; omega)
    apply i64_ext
    rw [is_ (by rw [ev, el]; omega) (by rw [ev, el]; omega), ev, el, mx_i, in_ (by rw [es, ev]; omega), es, ev, iv0]
    omega
theorem mx_nn {x : Int64} : 0 ≤ (mx 0 x).toInt := by rw [mx_i, iv0]; omega
end REL1
