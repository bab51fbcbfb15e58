/-! ===== A call of the class beside the model's, 3 ===== -/
section OPU
variable {G : qG} {y : Nat → Option qSh} {μ : qMu} {X M k n s N a e f i b p e0 c : Nat} {C D : Row} {cd : Nat → Int64} {kd cm mm : Nat} {ca ma : List Value} {C' D' : Row} {v' : Value} {E : Nat}
theorem nI_ne {q : Nat} (hq : q < 2 ^ 31) : nI q ≠ -1 := fun h => by
  have h1 := congrArg Int32.toInt h
  rw [nI_32 hq, show (-1 : Int32).toInt = -1 by decide] at h1
  omega
/-- the place of an envelope or of the pool -/
theorem pl_n {x : Int32} (he : e ≤ 10) (hx : x = -1 ∨ ∃ q, q < e ∧ x = nI q) : plc x = 7 ∨ ∃ q, q < e ∧ plc x = 13 + 6 * q := by
  unfold plc
  rcases hx with rfl | ⟨q, hq, rfl⟩
  · exact Or.inl (if_pos rfl)
  · refine Or.inr ⟨q, hq, ?_⟩
    rw [if_neg (nI_ne (by omega)), nI_clamp (by omega)]
theorem pl_FU {x : Int32} (he : e ≤ 10) (hx : x = -1 ∨ ∃ q, q < e ∧ x = nI q) : jB N a e f i b p (plc x) = FU := by
  rcases pl_n he hx with h | ⟨q, hq, h⟩
  · rw [h]; rfl
  · rw [h, show 13 + 6 * q = 13 + 6 * q + 0 by omega, jB_E (by omega) (by decide)]
    rfl
theorem pl_6 {x : Int32} (he : e ≤ 10) (hx : x = -1 ∨ ∃ q, q < e ∧ x = nI q) : 6 ≠ plc x := by
  rcases pl_n he hx with h | ⟨q, hq, h⟩ <;> rw [h] <;> omega
theorem jB_F0 {q : Nat} (hq : q < 6) : jB N a e f i b p (73 + 6 * q) = (-(1000000 * (N : Int)), 1000000 * (N : Int)) := by
  have := jB_F (N := N) (a := a) (e := e) (f := f) (i := i) (b := b) (p := p) hq (r := 0) (by decide)
  rwa [if_pos rfl] at this
theorem AL.kmon {x : Int32} (hJ : J N a e f i b p D) (h : AL a e f i b C D) (hx : x = -1 ∨ ∃ q, q < e ∧ x = nI q) : kMon C x = D (plc x) := by
  have hc := hJ.2.1
  unfold Jc at hc
  unfold kMon plc
  rw [h.c1 hJ]
  rcases hx with rfl | ⟨q, hq, rfl⟩
  · rw [if_neg (fun h => absurd h.1 (by decide)), if_pos rfl]
    exact h.g (lv_8 (by omega))
  · rw [if_pos (c_in hq (by omega)), if_neg (nI_ne (by omega)), nI_clamp (by omega)]
    exact h.g (lv_e0 hq)
theorem AL.kput {x : Int32} {v w : Int64} (hJ : J N a e f i b p D) (h : AL a e f i b C D) (hx : x = -1 ∨ ∃ q, q < e ∧ x = nI q) (hv : v = w) : AL a e f i b (kPut C x v) (sv D (plc x) (D (plc x) + w)) := by
  have hc := hJ.2.1
  unfold Jc at hc
  subst hv
  unfold kPut plc
  rw [h.c1 hJ]
  rcases hx with rfl | ⟨q, hq, rfl⟩
  · rw [if_neg (fun h => absurd h.1 (by decide)), if_pos rfl]
    exact h.put (by omega) (by omega) (by rw [h.g (lv_8 (by omega))])
  · rw [if_pos (c_in hq (by omega)), if_neg (nI_ne (by omega)), nI_clamp (by omega)]
    exact h.put (by omega) (by omega) (by rw [h.g (lv_e0 hq)])
/-- a bill more -/
theorem AL.upB {x z v w u : Int32} (hb : b < 12) (h : AL a e f i b C D) (hc : a ≤ 4 ∧ e ≤ 10 ∧ f ≤ 6 ∧ i ≤ 4) : AL a e f i (b + 1) (kDB C b x z v w u) (kDB D b x z v w u) := by
  unfold kDB kDB0
  refine ⟨fun k hk => ?_, (((((h.put (by omega) (by omega) rfl).put (by omega) (by omega) rfl).put (by omega) (by omega) rfl).put (by omega) (by omega) rfl).put (by omega) (by omega) rfl |>.put (by omega) (by omega) rfl).2⟩
  simp only [sv_get]
  by_cases h0 : k = 4
  · rw [if_pos h0, if_pos h0]
  rw [if_neg h0, if_neg h0]
  by_cases h1 : k = 125 + 5 * b + 4
  · rw [if_pos h1, if_pos h1]
  rw [if_neg h1, if_neg h1]
  by_cases h2 : k = 125 + 5 * b + 3
  · rw [if_pos h2, if_pos h2]
  rw [if_neg h2, if_neg h2]
  by_cases h3 : k = 125 + 5 * b + 2
  · rw [if_pos h3, if_pos h3]
  rw [if_neg h3, if_neg h3]
  by_cases h4 : k = 125 + 5 * b + 1
  · rw [if_pos h4, if_pos h4]
  rw [if_neg h4, if_neg h4]
  by_cases h5 : k = 125 + 5 * b
  · rw [if_pos h5, if_pos h5]
  rw [if_neg h5, if_neg h5]
  refine h.g ?_
  unfold Live at hk ⊢
  omega
theorem J.upBD {x z v w u : Int32} (hJ : J N a e f i b p D) (hb : b < 12) (hx : 0 ≤ x.toInt ∧ x.toInt < e) (hz : 0 ≤ z.toInt ∧ z.toInt < a) (hv : 1 ≤ v.toInt ∧ v.toInt ≤ 1000000) (hw : -1 ≤ w.toInt ∧ w.toInt ≤ 20000) (hu : 0 ≤ u.toInt ∧ u.toInt ≤ 400) : J N a e f i (b + 1) p (kDB D b x z v w u) := by
  have hc := hJ.2.1
  unfold Jc at hc
  unfold kDB
  have j0 : J N a e f i b p (kDB0 D b x z v w u) := by
    unfold kDB0
    refine ((((hJ.put ?_).put ?_).put ?_).put ?_).put ?_
    · rw [show 125 + 5 * b = 125 + 5 * b + 0 by omega, jB_Bl hb (by decide)]
      simp only [if_true, Nat.lt_irrefl, if_false]
      constructor <;> rw [Int32.toInt_toInt64] <;> dsimp only <;> omega
    · rw [jB_Bl hb (by decide)]
      simp only [Nat.reduceEqDiff, if_true, Nat.lt_irrefl, if_false]
      constructor <;> rw [Int32.toInt_toInt64] <;> dsimp only <;> omega
    · rw [jB_Bl hb (by decide)]
      simp only [Nat.reduceEqDiff, if_true, Nat.lt_irrefl, if_false]
      constructor <;> rw [Int32.toInt_toInt64] <;> dsimp only <;> omega
    · rw [jB_Bl hb (by decide)]
      simp only [Nat.reduceEqDiff, if_true, Nat.lt_irrefl, if_false]
      constructor <;> rw [Int32.toInt_toInt64] <;> dsimp only <;> omega
    · rw [jB_Bl hb (by decide)]
      simp only [Nat.reduceEqDiff, if_true, Nat.lt_irrefl, if_false]
      constructor <;> rw [Int32.toInt_toInt64] <;> dsimp only <;> omega
  have g0 : kDB0 D b x z v w u (125 + 5 * b) = x.toInt64 := by
    unfold kDB0
    rw [sv_get, if_neg (by omega), sv_get, if_neg (by omega), sv_get, if_neg (by omega), sv_get, if_neg (by omega), sv_get, if_pos rfl]
  have g1 : kDB0 D b x z v w u (125 + 5 * b + 1) = z.toInt64 := by
    unfold kDB0
    rw [sv_get, if_neg (by omega), sv_get, if_neg (by omega), sv_get, if_neg (by omega), sv_get, if_pos rfl]
  have g2 : kDB0 D b x z v w u (125 + 5 * b + 2) = v.toInt64 := by
    unfold kDB0
    rw [sv_get, if_neg (by omega), sv_get, if_neg (by omega), sv_get, if_pos rfl]
  refine j0.upB hb ?_ ?_ ?_
  · rw [g0, Int32.toInt_toInt64]; omega
  · rw [g1, Int32.toInt_toInt64]; omega
  · rw [g2, Int32.toInt_toInt64]; omega
/-- a bill less -/
theorem kRmL_get {q : Nat} : ∀ k j, kRmL C q k j = if 125 + 5 * q ≤ j ∧ j < 125 + 5 * (q + k) then cI (C (j + 5)) else C j
  | 0, j => by rw [kRmL, if_neg (by omega)]
  | k + 1, j => by
    have ih := kRmL_get (q := q) k
    rw [kRmL]
    unfold kRm1
    simp only [sv_get]
    by_cases h4 : j = 125 + 5 * (q + k) + 4
    · rw [if_pos h4, ih, if_neg (by omega), if_pos (by omega)]
      exact congrArg (fun t => cI (C t)) (by omega)
    rw [if_neg h4]
    by_cases h3 : j = 125 + 5 * (q + k) + 3
    · rw [if_pos h3, ih, if_neg (by omega), if_pos (by omega)]
      exact congrArg (fun t => cI (C t)) (by omega)
    rw [if_neg h3]
    by_cases h2 : j = 125 + 5 * (q + k) + 2
    · rw [if_pos h2, ih, if_neg (by omega), if_pos (by omega)]
      exact congrArg (fun t => cI (C t)) (by omega)
    rw [if_neg h2]
    by_cases h1 : j = 125 + 5 * (q + k) + 1
    · rw [if_pos h1, ih, if_neg (by omega), if_pos (by omega)]
      exact congrArg (fun t => cI (C t)) (by omega)
    rw [if_neg h1]
    by_cases h0 : j = 125 + 5 * (q + k)
    · rw [if_pos h0, ih, if_neg (by omega), if_pos (by omega)]
      exact congrArg (fun t => cI (C t)) (by omega)
    rw [if_neg h0, ih]
    by_cases h : 125 + 5 * q ≤ j ∧ j < 125 + 5 * (q + k)
    · rw [if_pos h, if_pos (by omega)]
    · rw [if_neg h, if_neg (by omega)]
theorem J.b32 (hJ : J N a e f i b p D) {j : Nat} (h1 : 125 ≤ j) (h2 : j < 125 + 5 * b) : -2 ^ 31 ≤ (D j).toInt ∧ (D j).toInt < 2 ^ 31 := by
  have hc := hJ.2.1
  unfold Jc at hc
  have hN := hJ.1
  have hq : ∃ q r, r < 5 ∧ j = 125 + 5 * q + r := ⟨(j - 125) / 5, (j - 125) % 5, Nat.mod_lt _ (by decide), by omega⟩
  obtain ⟨q, r, hr, rfl⟩ := hq
  have h0 := hJ.2.2 (125 + 5 * q + r)
  rw [jB_Bl (by omega) hr, if_pos (show q < b by omega), if_pos (show q < b by omega), if_pos (show q < b by omega)] at h0
  unfold IB at h0
  split at h0
  · dsimp only at h0; omega
  split at h0
  · dsimp only at h0; omega
  split at h0
  · dsimp only at h0; omega
  split at h0
  · dsimp only at h0; omega
  · dsimp only at h0; omega
theorem J.drp (hJ : J N a e f i b p D) {q : Nat} (hq : q < b) : J N a e f i (b - 1) p (pDrp D q b) := by
  have hc := hJ.2.1
  unfold Jc at hc
  refine hJ.chg (by unfold Jc; omega) fun k => ?_
  unfold pDrp
  rw [sv_get]
  by_cases h4 : k = 4
  · rw [if_pos h4, h4]
    refine Or.inl ?_
    show IB (((b - 1 : Nat) : Int), ((b - 1 : Nat) : Int)) _
    unfold IB
    rw [Int32.toInt_toInt64, nI_32 (by omega)]
    exact ⟨Int.le_refl _, Int.le_refl _⟩
  rw [if_neg h4, pMv_get]
  by_cases hk : 125 ≤ k ∧ k < 185
  · have hq : ∃ x r, r < 5 ∧ k = 125 + 5 * x + r := ⟨(k - 125) / 5, (k - 125) % 5, Nat.mod_lt _ (by decide), by omega⟩
    obtain ⟨x, r, hr, rfl⟩ := hq
    by_cases h : 125 + 5 * q ≤ 125 + 5 * x + r ∧ 125 + 5 * x + r < 125 + 5 * q + 5 * (b - 1 - q)
    · rw [if_pos h]
      refine Or.inl ?_
      have h0 := hJ.2.2 (125 + 5 * (x + 1) + r)
      rw [show 125 + 5 * x + r + 5 = 125 + 5 * (x + 1) + r by omega]
      rw [jB_Bl (by omega) hr, if_pos (show x + 1 < b by omega), if_pos (show x + 1 < b by omega), if_pos (show x + 1 < b by omega)] at h0
      rw [jB_Bl (by omega) hr, if_pos (show x < b - 1 by omega), if_pos (show x < b - 1 by omega), if_pos (show x < b - 1 by omega)]
      exact h0
    · rw [if_neg h]
      refine Or.inr ⟨rfl, ?_⟩
      rw [jB_Bl (by omega) hr, jB_Bl (by omega) hr]
      unfold le2
      split
      · split <;> split <;> dsimp only <;> omega
      split
      · split <;> split <;> dsimp only <;> omega
      split
      · split <;> split <;> dsimp only <;> omega
      exact ⟨Int.le_refl _, Int.le_refl _⟩
  · rw [if_neg (by omega)]
    refine Or.inr ⟨rfl, ?_⟩
    have : jB N a e f i (b - 1) p k = jB N a e f i b p k := by
      unfold jB
      simp only [h4, if_false]
      by_cases h0 : k < 125
      · simp only [h0, if_true]
      · have h1 : ¬ k < 185 := by omega
        simp only [h0, h1, if_false]
    rw [this]
    exact ⟨Int.le_refl _, Int.le_refl _⟩
theorem AL.drp (hJ : J N a e f i b p D) (h : AL a e f i b C D) {q : Nat} (hq : q < b) : AL a e f i (b - 1) (kRm C q b) (pDrp D q b) := by
  have hc := hJ.2.1
  unfold Jc at hc
  unfold kRm pDrp
  refine ⟨fun k hk => ?_, ?_⟩
  · rw [sv_get, sv_get]
    by_cases h4 : k = 4
    · rw [if_pos h4, if_pos h4]
    rw [if_neg h4, if_neg h4, kRmL_get, pMv_get]
    by_cases hk2 : 125 + 5 * q ≤ k ∧ k < 125 + 5 * (q + (b - 1 - q))
    · rw [if_pos hk2, if_pos (by omega), h.g (k := k + 5) (by unfold Live; omega)]
      have := hJ.b32 (j := k + 5) (by omega) (by omega)
      exact cI_r this.1 this.2
    · rw [if_neg hk2, if_neg (by omega)]
      refine h.g ?_
      unfold Live at hk ⊢
      omega
  · obtain ⟨l, h1, h2, h3, h4, h5⟩ := h.2
    refine ⟨l, h1, ?_, ?_, ?_, fun x hx w hw => ?_⟩
    · rw [sv_get, if_neg (by omega), pMv_get, if_neg (by omega)]; exact h2
    · rw [sv_get, if_neg (by omega), kRmL_get, if_neg (by omega)]; exact h3
    · rw [sv_get, if_neg (by omega), kRmL_get, if_neg (by omega)]; exact h4
    · rw [sv_get, if_neg (by omega), kRmL_get, if_neg (by omega), sv_get, if_neg (by omega), pMv_get, if_neg (by omega)]; exact h5 x hx w hw
theorem op_107 (hS : SH y X M) {x z v : Int32} : OpI G y X M cd2 1 107 [.int x, .int z, .int v] 228 [.int x, .int z, .int v] := by
  intro k μ n s hk hI
  obtain ⟨hE, hF, hDL, hM, hMA, hX⟩ := hS
  have hI' := hI
  obtain ⟨⟨a, e, f, i, b, p, hJ, hA, hd⟩, ⟨e0, c, hH⟩, -⟩ := hI'
  have hO := hA.ct hJ
  have hc := hJ.2.1
  unfold Jc at hc
  have hN := hJ.1
  have d6 := hJ.d6
  have tc := t107 (G := G) (μ := μ) (n := n) (s := s) hE hH.1 hO (x := x) (x' := z) (v := v)
  have tm := fun (μ1 : qMu) (n s : Nat) h6 => t228 (G := G) (μ := μ1) (n := n) (s := s) hM hMA hJ hH.1.2.2.2 h6 (x := x) (z := z) (v := v)
  have g0 : rd μ (X + 1) 0 = μ (M + 1) 0 := hA.g (lv_8 (by omega))
  have g1 : rd μ (X + 1) 1 = μ (M + 1) 1 := hA.g (lv_8 (by omega))
  have g2 : rd μ (X + 1) 2 = μ (M + 1) 2 := hA.g (lv_8 (by omega))
  have g3 : rd μ (X + 1) 3 = μ (M + 1) 3 := hA.g (lv_8 (by omega))
  have g4 : rd μ (X + 1) 4 = μ (M + 1) 4 := hA.g (lv_8 (by omega))
  have g5 : rd μ (X + 1) 5 = μ (M + 1) 5 := hA.g (lv_8 (by omega))
  have g6 := hA.d6 hJ
  have g7 : rd μ (X + 1) 7 = μ (M + 1) 7 := hA.g (lv_8 (by omega))
  try rw [g0] at tc
  try rw [g1] at tc
  try rw [g2] at tc
  try rw [g3] at tc
  try rw [g4] at tc
  try rw [g5] at tc
  by_cases d1 : x = -1 ∨ inR x (μ (M + 1) 1)
  case neg => exact lf_exc hk hX hI (tc.trans (if_pos d1)) (fun μ1 n s hx => (tm μ1 n s (lx6 hx hH)).trans (if_pos d1)) (by decide)
  replace tc := tc.trans (if_neg (not_not_intro d1))
  replace tm := fun μ1 n s h6 => (tm μ1 n s h6).trans (if_neg (not_not_intro d1))
  by_cases d2 : z = -1 ∨ inR z (μ (M + 1) 1)
  case neg => exact lf_exc hk hX hI (tc.trans (if_pos d2)) (fun μ1 n s hx => (tm μ1 n s (lx6 hx hH)).trans (if_pos d2)) (by decide)
  replace tc := tc.trans (if_neg (not_not_intro d2))
  replace tm := fun μ1 n s h6 => (tm μ1 n s h6).trans (if_neg (not_not_intro d2))
  by_cases d3 : x = z
  case pos => exact lf_exc hk hX hI (tc.trans (if_pos d3)) (fun μ1 n s hx => (tm μ1 n s (lx6 hx hH)).trans (if_pos (not_not_intro d3))) (by decide)
  replace tc := tc.trans (if_neg d3)
  replace tm := fun μ1 n s h6 => (tm μ1 n s h6).trans (if_neg (not_not_intro d3))
  by_cases d4 : 1 ≤ v ∧ v ≤ 1000000
  case neg => exact lf_exc hk hX hI (tc.trans (if_pos d4)) (fun μ1 n s hx => (tm μ1 n s (lx6 hx hH)).trans (if_pos d4)) (by decide)
  replace tc := tc.trans (if_neg (not_not_intro d4))
  replace tm := fun μ1 n s h6 => (tm μ1 n s h6).trans (if_neg (not_not_intro d4))
  have x1 : x = -1 ∨ ∃ q, q < e ∧ x = nI q := d1.imp id fun h => inR_n (by omega) hJ.c1 h
  have z1 : z = -1 ∨ ∃ q, q < e ∧ z = nI q := d2.imp id fun h => inR_n (by omega) hJ.c1 h
  rw [hA.kmon hJ x1] at tc
  by_cases d6 : μ (M + 1) (plc x) < v.toInt64
  case pos => exact lf_same hk hX hI (tc.trans (if_pos d6)) (fun μ1 n s hx => (tm μ1 n s (lx6 hx hH)).trans (if_pos (not_not_intro d6)))
  replace tc := tc.trans (if_neg d6)
  replace tm := fun μ1 n s h6 => (tm μ1 n s h6).trans (if_neg (not_not_intro d6))
  have hv := i64_v (lo := 1) (hi := 1000000) (by omega) d4 (by omega)
  have s1 : AL a e f i b (kPut (rd μ (X + 1)) x (-v).toInt64) (sv (μ (M + 1)) (plc x) (μ (M + 1) (plc x) - v.toInt64)) := by
    rw [← i_sub]
    exact hA.kput hJ x1 (g_neg32 (by rw [Int32.toInt_toInt64] at hv; omega))
  have j1 : J (23 * (μ (M + 1) 6).toInt.toNat + k + 1) a e f i b p (sv (μ (M + 1)) (plc x) (μ (M + 1) (plc x) - v.toInt64)) := hJ.full (pl_FU (by omega) x1)
  have s2 : AL a e f i b (kPut (kPut (rd μ (X + 1)) x (-v).toInt64) z v.toInt64) (pShf (μ (M + 1)) (plc x) (plc z) v.toInt64) := s1.kput j1 z1 rfl
  have j2 : J (23 * (μ (M + 1) 6).toInt.toNat + k + 1) a e f i b p (pShf (μ (M + 1)) (plc x) (plc z) v.toInt64) := j1.full (pl_FU (by omega) z1)
  have e6 : pShf (μ (M + 1)) (plc x) (plc z) v.toInt64 6 = μ (M + 1) 6 := pShf_o (pl_6 (by omega) x1) (pl_6 (by omega) z1)
  rw [s2.kmon j2 x1] at tc
  refine lf_act hk hX hI hH ⟨a, e, f, i, b, p, by rw [e6]; exact (j2.mono (Nat.le_succ _) (by omega)), s2, by rw [e6]; exact hd⟩ tc fun μ1 n s h6 => ?_
  exact tm μ1 n s h6
theorem op_111 (hS : SH y X M) {x v : Int32} : OpI G y X M cd2 1 111 [.int x, .int v] 231 [.int x, .int v] := by
  intro k μ n s hk hI
  obtain ⟨hE, hF, hDL, hM, hMA, hX⟩ := hS
  have hI' := hI
  obtain ⟨⟨a, e, f, i, b, p, hJ, hA, hd⟩, ⟨e0, c, hH⟩, -⟩ := hI'
  have hO := hA.ct hJ
  have hc := hJ.2.1
  unfold Jc at hc
  have hN := hJ.1
  have d6 := hJ.d6
  have tc := t111 (G := G) (μ := μ) (n := n) (s := s) hE hH.1 hO (x := x) (v := v)
  have tm := fun (μ1 : qMu) (n s : Nat) h6 => t231 (G := G) (μ := μ1) (n := n) (s := s) hM hMA hJ hH.1.2.2.2 h6 (x := x) (v := v)
  have g0 : rd μ (X + 1) 0 = μ (M + 1) 0 := hA.g (lv_8 (by omega))
  have g1 : rd μ (X + 1) 1 = μ (M + 1) 1 := hA.g (lv_8 (by omega))
  have g2 : rd μ (X + 1) 2 = μ (M + 1) 2 := hA.g (lv_8 (by omega))
  have g3 : rd μ (X + 1) 3 = μ (M + 1) 3 := hA.g (lv_8 (by omega))
  have g4 : rd μ (X + 1) 4 = μ (M + 1) 4 := hA.g (lv_8 (by omega))
  have g5 : rd μ (X + 1) 5 = μ (M + 1) 5 := hA.g (lv_8 (by omega))
  have g6 := hA.d6 hJ
  have g7 : rd μ (X + 1) 7 = μ (M + 1) 7 := hA.g (lv_8 (by omega))
  try rw [g0] at tc
  try rw [g1] at tc
  try rw [g2] at tc
  try rw [g3] at tc
  try rw [g4] at tc
  try rw [g5] at tc
  by_cases d1 : inR x (μ (M + 1) 2)
  case neg => exact lf_exc hk hX hI (tc.trans (if_pos d1)) (fun μ1 n s hx => (tm μ1 n s (lx6 hx hH)).trans (if_pos d1)) (by decide)
  replace tc := tc.trans (if_neg (not_not_intro d1))
  replace tm := fun μ1 n s h6 => (tm μ1 n s h6).trans (if_neg (not_not_intro d1))
  by_cases d2 : -1000000 ≤ v ∧ v ≤ 1000000
  case neg => exact lf_exc hk hX hI (tc.trans (if_pos d2)) (fun μ1 n s hx => (tm μ1 n s (lx6 hx hH)).trans (if_pos d2)) (by decide)
  replace tc := tc.trans (if_neg (not_not_intro d2))
  replace tm := fun μ1 n s h6 => (tm μ1 n s h6).trans (if_neg (not_not_intro d2))
  by_cases d3 : v = 0
  case pos => exact lf_exc hk hX hI (tc.trans (if_pos d3)) (fun μ1 n s hx => (tm μ1 n s (lx6 hx hH)).trans (if_pos (not_not_intro d3))) (by decide)
  replace tc := tc.trans (if_neg d3)
  replace tm := fun μ1 n s h6 => (tm μ1 n s h6).trans (if_neg (not_not_intro d3))
  obtain ⟨x, hx, rfl⟩ := inR_n (c := f) (by omega) hJ.c2 d1
  have zx : (nI x).toNatClampNeg = x := nI_clamp (by omega)
  try rw [zx] at tc
  try simp only [zx] at tm
  have hn := hJ.fn (q := x) (by omega)
  have c2 : rd μ (X + 1) (73 + 6 * x + 2) = μ (M + 1) (73 + 6 * x + 2) := hA.g (lv_f hx (by decide))
  have c0' : rd μ (X + 1) (73 + 6 * x) = μ (M + 1) (73 + 6 * x) := hA.g (lv_f0 hx)
  have m2 := m1_32 (x := μ (M + 1) (73 + 6 * x + 2)) (by omega)
  simp only [c2, m2] at tc
  by_cases d5 : μ (M + 1) (73 + 6 * x + 2) = -1
  case pos => exact lf_same hk hX hI (tc.trans (if_pos d5)) (fun μ1 n s hx => (tm μ1 n s (lx6 hx hH)).trans (if_pos (not_not_intro d5)))
  replace tc := tc.trans (if_neg d5)
  replace tm := fun μ1 n s h6 => (tm μ1 n s h6).trans (if_neg (not_not_intro d5))

  have hv : -1000000 ≤ v.toInt ∧ v.toInt ≤ 1000000 := by
    have h1 := Int32.le_iff_toInt_le.mp d2.1
    have h2 := Int32.le_iff_toInt_le.mp d2.2
    rw [show (-1000000 : Int32).toInt = -1000000 by decide] at h1
    rw [show (1000000 : Int32).toInt = 1000000 by decide] at h2
    exact ⟨h1, h2⟩
  have eg : gvL (rd μ (X + 1)) x v = ((if 0 < v then μ (M + 1) 7 else μ (M + 1) (73 + 6 * x)) < (absI v).toInt64) := by
    unfold gvL absI
    rw [g7, c0']
    by_cases q : 0 < v
    · rw [if_pos q, if_pos q, if_pos (Int32.le_of_lt q)]
    · rw [if_neg q, if_neg q, if_neg]
      intro q2
      apply d3
      apply Int32.toInt_inj.mp
      have h1 := Int32.le_iff_toInt_le.mp q2
      have h2 := mt Int32.lt_iff_toInt_lt.mpr q
      rw [show (0 : Int32).toInt = 0 by decide] at h1 h2 ⊢
      omega
  simp only [eg] at tc
  by_cases d7 : (if 0 < v then μ (M + 1) 7 else μ (M + 1) (73 + 6 * x)) < (absI v).toInt64
  case pos => exact lf_same hk hX hI (tc.trans (if_pos d7)) (fun μ1 n s hx => (tm μ1 n s (lx6 hx hH)).trans (if_pos (not_not_intro d7)))
  replace tc := tc.trans (if_neg d7)
  replace tm := fun μ1 n s h6 => (tm μ1 n s h6).trans (if_neg (not_not_intro d7))
  have s1 : AL a e f i b (kGiv (rd μ (X + 1)) x v) (pShf (μ (M + 1)) 7 (73 + 6 * x) v.toInt64) := (hA.put (k := 7) (v := rd μ (X + 1) 7 - v.toInt64) (w := μ (M + 1) 7 - v.toInt64) (by omega) (by omega) (by rw [g7])).put (k := 73 + 6 * x) (v := rd μ (X + 1) (73 + 6 * x) + v.toInt64) (w := sv (μ (M + 1)) 7 (μ (M + 1) 7 - v.toInt64) (73 + 6 * x) + v.toInt64) (by omega) (by omega) (by rw [sv_get, if_neg (by omega), c0'])
  have j1 : J (23 * (μ (M + 1) 6).toInt.toNat + k + 1 + 1) a e f i b p (pShf (μ (M + 1)) 7 (73 + 6 * x) v.toInt64) := by
    unfold pShf
    refine ((hJ.mono (Nat.le_succ _) (by omega)).full jB_7).put ?_
    rw [sv_get, if_neg (by omega), jB_F0 (by omega)]
    have h0 := hJ.fb (q := x) (by omega)
    have h1 : v.toInt64.toInt = v.toInt := Int32.toInt_toInt64 v
    have := ia (x := μ (M + 1) (73 + 6 * x)) (y := v.toInt64) (by omega) (by omega)
    constructor <;> dsimp only <;> rw [this] <;> omega
  have e6 : pShf (μ (M + 1)) 7 (73 + 6 * x) v.toInt64 6 = μ (M + 1) 6 := pShf_o (by omega) (by omega)
  have ev : pShf (μ (M + 1)) 7 (73 + 6 * x) v.toInt64 (73 + 6 * x) = rd μ (X + 1) (73 + 6 * x) + v.toInt64 := by
    unfold pShf
    rw [sv_get, if_pos rfl, sv_get, if_neg (by omega), c0']
  refine lf_act hk hX hI hH ⟨a, e, f, i, b, p, by rw [e6]; exact j1, s1, by rw [e6]; exact hd⟩ tc fun μ1 n s h6 => ?_
  rw [← ev]
  exact tm μ1 n s h6
theorem op_117 (hS : SH y X M) {x z v w u : Int32} : OpI G y X M cd2 0 117 [.int x, .int z, .int v, .int w, .int u] 238 [.int x, .int z, .int v, .int w, .int u] := by
  intro k μ n s hk hI
  obtain ⟨hE, hF, hDL, hM, hMA, hX⟩ := hS
  have hI' := hI
  obtain ⟨⟨a, e, f, i, b, p, hJ, hA, hd⟩, ⟨e0, c, hH⟩, -⟩ := hI'
  have hO := hA.ct hJ
  have hc := hJ.2.1
  unfold Jc at hc
  have hN := hJ.1
  have d6 := hJ.d6
  have tc := t117 (G := G) (μ := μ) (n := n) (s := s) hE hH.1 hO (x := x) (a := z) (v := v) (f := w) (w := u)
  have tm := fun (μ1 : qMu) (n s : Nat) h6 => t238 (G := G) (μ := μ1) (n := n) (s := s) hM hMA hJ hH.1.2.2.2 h6 (x := x) (z := z) (v := v) (w := w) (u := u)
  have g0 : rd μ (X + 1) 0 = μ (M + 1) 0 := hA.g (lv_8 (by omega))
  have g1 : rd μ (X + 1) 1 = μ (M + 1) 1 := hA.g (lv_8 (by omega))
  have g2 : rd μ (X + 1) 2 = μ (M + 1) 2 := hA.g (lv_8 (by omega))
  have g3 : rd μ (X + 1) 3 = μ (M + 1) 3 := hA.g (lv_8 (by omega))
  have g4 : rd μ (X + 1) 4 = μ (M + 1) 4 := hA.g (lv_8 (by omega))
  have g5 : rd μ (X + 1) 5 = μ (M + 1) 5 := hA.g (lv_8 (by omega))
  have g6 := hA.d6 hJ
  have g7 : rd μ (X + 1) 7 = μ (M + 1) 7 := hA.g (lv_8 (by omega))
  try rw [g0] at tc
  try rw [g1] at tc
  try rw [g2] at tc
  try rw [g3] at tc
  try rw [g4] at tc
  try rw [g5] at tc
  by_cases d1 : inR x (μ (M + 1) 1)
  case neg => exact lf_exc hk hX hI (tc.trans (if_pos d1)) (fun μ1 n s hx => (tm μ1 n s (lx6 hx hH)).trans (if_pos d1)) (by decide)
  replace tc := tc.trans (if_neg (not_not_intro d1))
  replace tm := fun μ1 n s h6 => (tm μ1 n s h6).trans (if_neg (not_not_intro d1))
  by_cases d2 : inR z (μ (M + 1) 0)
  case neg => exact lf_exc hk hX hI (tc.trans (if_pos d2)) (fun μ1 n s hx => (tm μ1 n s (lx6 hx hH)).trans (if_pos d2)) (by decide)
  replace tc := tc.trans (if_neg (not_not_intro d2))
  replace tm := fun μ1 n s h6 => (tm μ1 n s h6).trans (if_neg (not_not_intro d2))
  by_cases d3 : 1 ≤ v ∧ v ≤ 1000000
  case neg => exact lf_exc hk hX hI (tc.trans (if_pos d3)) (fun μ1 n s hx => (tm μ1 n s (lx6 hx hH)).trans (if_pos d3)) (by decide)
  replace tc := tc.trans (if_neg (not_not_intro d3))
  replace tm := fun μ1 n s h6 => (tm μ1 n s h6).trans (if_neg (not_not_intro d3))
  rw [g6.1] at tc
  by_cases d5 : (μ (M + 1) 6).toInt32 + 1 ≤ w ∧ w ≤ 20000
  case neg => exact lf_exc hk hX hI (tc.trans (if_pos d5)) (fun μ1 n s hx => (tm μ1 n s (lx6 hx hH)).trans (if_pos d5)) (by decide)
  replace tc := tc.trans (if_neg (not_not_intro d5))
  replace tm := fun μ1 n s h6 => (tm μ1 n s h6).trans (if_neg (not_not_intro d5))
  by_cases d6 : 0 ≤ u ∧ u ≤ 400
  case neg => exact lf_exc hk hX hI (tc.trans (if_pos d6)) (fun μ1 n s hx => (tm μ1 n s (lx6 hx hH)).trans (if_pos d6)) (by decide)
  replace tc := tc.trans (if_neg (not_not_intro d6))
  replace tm := fun μ1 n s h6 => (tm μ1 n s h6).trans (if_neg (not_not_intro d6))
  by_cases d7 : 12 ≤ b
  case pos => exact lf_same hk hX hI (tc.trans (if_pos d7)) (fun μ1 n s hx => (tm μ1 n s (lx6 hx hH)).trans (if_pos (not_not_intro d7)))
  replace tc := tc.trans (if_neg d7)
  replace tm := fun μ1 n s h6 => (tm μ1 n s h6).trans (if_neg (not_not_intro d7))
  obtain ⟨x, hx, rfl⟩ := inR_n (c := e) (by omega) hJ.c1 d1
  obtain ⟨z, hz, rfl⟩ := inR_n (c := a) (by omega) hJ.c0 d2
  have hv := i64_v (lo := 1) (hi := 1000000) (by omega) d3 (by omega)
  have hu := i64_v (lo := 0) (hi := 400) (by omega) d6 (by omega)
  rw [Int32.toInt_toInt64] at hv hu
  have hw : -1 ≤ w.toInt ∧ w.toInt ≤ 20000 := by
    have h1 := Int32.le_iff_toInt_le.mp d5.1
    have h2 := Int32.le_iff_toInt_le.mp d5.2
    rw [show (20000 : Int32).toInt = 20000 by decide] at h2
    rw [Int32.toInt_add, to32 (by omega) (by omega), show (1 : Int32).toInt = 1 by decide, Int.bmod_eq_of_le (by omega) (by omega)] at h1
    omega
  have s1 := hA.upB (x := nI x) (z := nI z) (v := v) (w := w) (u := u) (by omega) (by omega)
  have j1 := (hJ.mono (Nat.le_succ _) (by omega)).upBD (x := nI x) (z := nI z) (v := v) (w := w) (u := u) (by omega) (by rw [nI_32 (by omega)]; omega) (by rw [nI_32 (by omega)]; omega) hv hw hu
  have e6 : kDB (μ (M + 1)) b (nI x) (nI z) v w u 6 = μ (M + 1) 6 := by
    unfold kDB kDB0
    rw [sv_get, if_neg (by omega), sv_get, if_neg (by omega), sv_get, if_neg (by omega), sv_get, if_neg (by omega), sv_get, if_neg (by omega), sv_get, if_neg (by omega)]
  refine lf_act hk hX hI hH ⟨a, e, f, i, b + 1, p, by rw [e6]; exact j1, s1, by rw [e6]; exact hd⟩ tc fun μ1 n s h6 => ?_
  exact tm μ1 n s h6
theorem op_118 (hS : SH y X M) {x : Int32} : OpI G y X M cdB 0 118 [.int x] 239 [.int x] := by
  intro k μ n s hk hI
  obtain ⟨hE, hF, hDL, hM, hMA, hX⟩ := hS
  have hI' := hI
  obtain ⟨⟨a, e, f, i, b, p, hJ, hA, hd⟩, ⟨e0, c, hH⟩, -⟩ := hI'
  have hO := hA.ct hJ
  have hc := hJ.2.1
  unfold Jc at hc
  have hN := hJ.1
  have d6 := hJ.d6
  have tc := t118 (G := G) (μ := μ) (n := n) (s := s) hE hH.1 hO (x := x)
  have tm := fun (μ1 : qMu) (n s : Nat) h6 => t239 (G := G) (μ := μ1) (n := n) (s := s) hM hMA hJ hH.1.2.2.2 h6 (x := x)
  have g0 : rd μ (X + 1) 0 = μ (M + 1) 0 := hA.g (lv_8 (by omega))
  have g1 : rd μ (X + 1) 1 = μ (M + 1) 1 := hA.g (lv_8 (by omega))
  have g2 : rd μ (X + 1) 2 = μ (M + 1) 2 := hA.g (lv_8 (by omega))
  have g3 : rd μ (X + 1) 3 = μ (M + 1) 3 := hA.g (lv_8 (by omega))
  have g4 : rd μ (X + 1) 4 = μ (M + 1) 4 := hA.g (lv_8 (by omega))
  have g5 : rd μ (X + 1) 5 = μ (M + 1) 5 := hA.g (lv_8 (by omega))
  have g6 := hA.d6 hJ
  have g7 : rd μ (X + 1) 7 = μ (M + 1) 7 := hA.g (lv_8 (by omega))
  try rw [g0] at tc
  try rw [g1] at tc
  try rw [g2] at tc
  try rw [g3] at tc
  try rw [g4] at tc
  try rw [g5] at tc
  by_cases d1 : inR x (μ (M + 1) 4)
  case neg => exact lf_exc hk hX hI (tc.trans (if_pos d1)) (fun μ1 n s hx => (tm μ1 n s (lx6 hx hH)).trans (if_pos d1)) (by decide)
  replace tc := tc.trans (if_neg (not_not_intro d1))
  replace tm := fun μ1 n s h6 => (tm μ1 n s h6).trans (if_neg (not_not_intro d1))
  obtain ⟨x, hx, rfl⟩ := inR_n (c := b) (by omega) hJ.c4 d1
  have zx : (nI x).toNatClampNeg = x := nI_clamp (by omega)
  try rw [zx] at tc
  try simp only [zx] at tm
  have s1 := hA.drp hJ hx
  have j1 := (hJ.mono (Nat.le_succ _) (by omega)).drp hx
  have e6 : pDrp (μ (M + 1)) x b 6 = μ (M + 1) 6 := by
    unfold pDrp
    rw [sv_get, if_neg (by omega), pMv_get, if_neg (by omega)]
  refine lf_act hk hX hI hH ⟨a, e, f, i, b - 1, p, by rw [e6]; exact j1, s1, by rw [e6]; exact hd⟩ tc fun μ1 n s h6 => ?_
  exact tm μ1 n s h6
end OPU
