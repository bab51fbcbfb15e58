/-! ===== A call of the class beside the model's, 2 ===== -/
section OPT
variable {G : qG} {y : Nat → Option qSh} {μ : qMu} {X M k n s : Nat}
theorem op_114 (hS : SH y X M) {x v : Int32} : OpI G y X M cd2 0 114 [.int x, .int v] 234 [.int x, .int v] := by
  intro k μ n s hk hI
  obtain ⟨hE, hF, hDL, hM, hMA, hX⟩ := hS
  have hI' := hI
  obtain ⟨⟨a, e, f, i, b, p, hJ, hA, hd⟩, ⟨e0, c, hH⟩, -⟩ := hI'
  have hO := hA.ct hJ
  have hc := hJ.2.1
  unfold Jc at hc
  have hN := hJ.1
  have d6 := hJ.d6
  have tc := t114 (G := G) (μ := μ) (n := n) (s := s) hE hH.1 hO (x := x) (v := v)
  have tm := fun (μ1 : qMu) (n s : Nat) h6 => t234 (G := G) (μ := μ1) (n := n) (s := s) hM hMA hJ hH.1.2.2.2 h6 (x := x) (v := v)
  have g0 : rd μ (X + 1) 0 = μ (M + 1) 0 := hA.g (lv_8 (by omega))
  have g1 : rd μ (X + 1) 1 = μ (M + 1) 1 := hA.g (lv_8 (by omega))
  have g2 : rd μ (X + 1) 2 = μ (M + 1) 2 := hA.g (lv_8 (by omega))
  have g3 : rd μ (X + 1) 3 = μ (M + 1) 3 := hA.g (lv_8 (by omega))
  have g4 : rd μ (X + 1) 4 = μ (M + 1) 4 := hA.g (lv_8 (by omega))
  have g5 : rd μ (X + 1) 5 = μ (M + 1) 5 := hA.g (lv_8 (by omega))
  have g6 := hA.d6 hJ
  have g7 : rd μ (X + 1) 7 = μ (M + 1) 7 := hA.g (lv_8 (by omega))
  try rw [g0] at tc
  try rw [g1] at tc
  try rw [g2] at tc
  try rw [g3] at tc
  try rw [g4] at tc
  try rw [g5] at tc
  by_cases d1 : inR x (μ (M + 1) 1)
  case neg => exact lf_exc hk hX hI (tc.trans (if_pos d1)) (fun μ1 n s hx => (tm μ1 n s (lx6 hx hH)).trans (if_pos d1)) (by decide)
  replace tc := tc.trans (if_neg (not_not_intro d1))
  replace tm := fun μ1 n s h6 => (tm μ1 n s h6).trans (if_neg (not_not_intro d1))
  by_cases d2 : 0 ≤ v ∧ v ≤ 1000000
  case neg => exact lf_exc hk hX hI (tc.trans (if_pos d2)) (fun μ1 n s hx => (tm μ1 n s (lx6 hx hH)).trans (if_pos d2)) (by decide)
  replace tc := tc.trans (if_neg (not_not_intro d2))
  replace tm := fun μ1 n s h6 => (tm μ1 n s h6).trans (if_neg (not_not_intro d2))
  obtain ⟨x, hx, rfl⟩ := inR_n (c := e) (by omega) hJ.c1 d1
  have zx : (nI x).toNatClampNeg = x := nI_clamp (by omega)
  try rw [zx] at tc
  try simp only [zx] at tm
  have hv := i64_v (lo := 0) (hi := 1000000) (by omega) d2 (by omega)
  have s1 := hA.put (k := 13 + 6 * x + 1) (v := v.toInt64) (w := v.toInt64) (by omega) (by omega) rfl
  have j1 : J (23 * (μ (M + 1) 6).toInt.toNat + k + 1 + 1) a e f i b p (sv (μ (M + 1)) (13 + 6 * x + 1) v.toInt64) := by
    refine (hJ.mono (Nat.le_succ _) (by omega)).put ?_
    rw [jB_E (by omega) (by decide)]
    simp only [Nat.reduceEqDiff, if_false, if_true]
    exact ⟨by omega, by omega⟩
  have e6 : sv (μ (M + 1)) (13 + 6 * x + 1) v.toInt64 6 = μ (M + 1) 6 := by rw [sv_get, if_neg (by omega)]
  refine lf_act hk hX hI hH ⟨a, e, f, i, b, p, by rw [e6]; exact j1, s1, by rw [e6]; exact hd⟩ tc fun μ1 n s h6 => ?_
  rw [hA.g (lv_e hx (by decide))]
  exact tm μ1 n s h6
theorem op_115 (hS : SH y X M) {x v u : Int32} : OpI G y X M cd2 0 115 [.int x, .int v, .int u] 236 [.int x, .int v, .int u] := by
  intro k μ n s hk hI
  obtain ⟨hE, hF, hDL, hM, hMA, hX⟩ := hS
  have hI' := hI
  obtain ⟨⟨a, e, f, i, b, p, hJ, hA, hd⟩, ⟨e0, c, hH⟩, -⟩ := hI'
  have hO := hA.ct hJ
  have hc := hJ.2.1
  unfold Jc at hc
  have hN := hJ.1
  have d6 := hJ.d6
  have tc := t115 (G := G) (μ := μ) (n := n) (s := s) hE hH.1 hO (x := x) (v := v) (u := u)
  have tm := fun (μ1 : qMu) (n s : Nat) h6 => t236 (G := G) (μ := μ1) (n := n) (s := s) hM hMA hJ hH.1.2.2.2 h6 (x := x) (v := v) (w := u)
  have g0 : rd μ (X + 1) 0 = μ (M + 1) 0 := hA.g (lv_8 (by omega))
  have g1 : rd μ (X + 1) 1 = μ (M + 1) 1 := hA.g (lv_8 (by omega))
  have g2 : rd μ (X + 1) 2 = μ (M + 1) 2 := hA.g (lv_8 (by omega))
  have g3 : rd μ (X + 1) 3 = μ (M + 1) 3 := hA.g (lv_8 (by omega))
  have g4 : rd μ (X + 1) 4 = μ (M + 1) 4 := hA.g (lv_8 (by omega))
  have g5 : rd μ (X + 1) 5 = μ (M + 1) 5 := hA.g (lv_8 (by omega))
  have g6 := hA.d6 hJ
  have g7 : rd μ (X + 1) 7 = μ (M + 1) 7 := hA.g (lv_8 (by omega))
  try rw [g0] at tc
  try rw [g1] at tc
  try rw [g2] at tc
  try rw [g3] at tc
  try rw [g4] at tc
  try rw [g5] at tc
  by_cases d1 : inR x (μ (M + 1) 1)
  case neg => exact lf_exc hk hX hI (tc.trans (if_pos d1)) (fun μ1 n s hx => (tm μ1 n s (lx6 hx hH)).trans (if_pos d1)) (by decide)
  replace tc := tc.trans (if_neg (not_not_intro d1))
  replace tm := fun μ1 n s h6 => (tm μ1 n s h6).trans (if_neg (not_not_intro d1))
  by_cases d2 : 0 ≤ v ∧ v ≤ 2
  case neg => exact lf_exc hk hX hI (tc.trans (if_pos d2)) (fun μ1 n s hx => (tm μ1 n s (lx6 hx hH)).trans (if_pos d2)) (by decide)
  replace tc := tc.trans (if_neg (not_not_intro d2))
  replace tm := fun μ1 n s h6 => (tm μ1 n s h6).trans (if_neg (not_not_intro d2))
  by_cases d3 : 0 ≤ u ∧ u ≤ 1000000
  case neg => exact lf_exc hk hX hI (tc.trans (if_pos d3)) (fun μ1 n s hx => (tm μ1 n s (lx6 hx hH)).trans (if_pos d3)) (by decide)
  replace tc := tc.trans (if_neg (not_not_intro d3))
  replace tm := fun μ1 n s h6 => (tm μ1 n s h6).trans (if_neg (not_not_intro d3))
  obtain ⟨x, hx, rfl⟩ := inR_n (c := e) (by omega) hJ.c1 d1
  have zx : (nI x).toNatClampNeg = x := nI_clamp (by omega)
  try rw [zx] at tc
  try simp only [zx] at tm
  have hv := i64_v (lo := 0) (hi := 2) (by omega) d2 (by omega)
  have hu := i64_v (lo := 0) (hi := 1000000) (by omega) d3 (by omega)
  have s1 := (hA.put (k := 13 + 6 * x + 2) (v := v.toInt64) (w := v.toInt64) (by omega) (by omega) rfl).put (k := 13 + 6 * x + 3) (v := u.toInt64) (w := u.toInt64) (by omega) (by omega) rfl
  have j1 : J (23 * (μ (M + 1) 6).toInt.toNat + k + 1 + 1) a e f i b p (sv (sv (μ (M + 1)) (13 + 6 * x + 2) v.toInt64) (13 + 6 * x + 3) u.toInt64) := by
    refine ((hJ.mono (Nat.le_succ _) (by omega)).put ?_).put ?_
    · rw [jB_E (by omega) (by decide)]
      simp only [Nat.reduceEqDiff, if_false, if_true]
      exact ⟨by omega, by omega⟩
    · rw [jB_E (by omega) (by decide)]
      simp only [Nat.reduceEqDiff, if_false, if_true]
      exact ⟨by omega, by omega⟩
  have e6 : sv (sv (μ (M + 1)) (13 + 6 * x + 2) v.toInt64) (13 + 6 * x + 3) u.toInt64 6 = μ (M + 1) 6 := by rw [sv_get, if_neg (by omega), sv_get, if_neg (by omega)]
  refine lf_act hk hX hI hH ⟨a, e, f, i, b, p, by rw [e6]; exact j1, s1, by rw [e6]; exact hd⟩ tc fun μ1 n s h6 => ?_
  rw [hA.g (lv_e hx (by decide))]
  exact tm μ1 n s h6
theorem op_116 (hS : SH y X M) {x v : Int32} : OpI G y X M cd2 0 116 [.int x, .int v] 237 [.int x, .int v] := by
  intro k μ n s hk hI
  obtain ⟨hE, hF, hDL, hM, hMA, hX⟩ := hS
  have hI' := hI
  obtain ⟨⟨a, e, f, i, b, p, hJ, hA, hd⟩, ⟨e0, c, hH⟩, -⟩ := hI'
  have hO := hA.ct hJ
  have hc := hJ.2.1
  unfold Jc at hc
  have hN := hJ.1
  have d6 := hJ.d6
  have tc := t116 (G := G) (μ := μ) (n := n) (s := s) hE hH.1 hO (x := x) (v := v)
  have tm := fun (μ1 : qMu) (n s : Nat) h6 => t237 (G := G) (μ := μ1) (n := n) (s := s) hM hMA hJ hH.1.2.2.2 h6 (x := x) (v := v)
  have g0 : rd μ (X + 1) 0 = μ (M + 1) 0 := hA.g (lv_8 (by omega))
  have g1 : rd μ (X + 1) 1 = μ (M + 1) 1 := hA.g (lv_8 (by omega))
  have g2 : rd μ (X + 1) 2 = μ (M + 1) 2 := hA.g (lv_8 (by omega))
  have g3 : rd μ (X + 1) 3 = μ (M + 1) 3 := hA.g (lv_8 (by omega))
  have g4 : rd μ (X + 1) 4 = μ (M + 1) 4 := hA.g (lv_8 (by omega))
  have g5 : rd μ (X + 1) 5 = μ (M + 1) 5 := hA.g (lv_8 (by omega))
  have g6 := hA.d6 hJ
  have g7 : rd μ (X + 1) 7 = μ (M + 1) 7 := hA.g (lv_8 (by omega))
  try rw [g0] at tc
  try rw [g1] at tc
  try rw [g2] at tc
  try rw [g3] at tc
  try rw [g4] at tc
  try rw [g5] at tc
  by_cases d1 : inR x (μ (M + 1) 2)
  case neg => exact lf_exc hk hX hI (tc.trans (if_pos d1)) (fun μ1 n s hx => (tm μ1 n s (lx6 hx hH)).trans (if_pos d1)) (by decide)
  replace tc := tc.trans (if_neg (not_not_intro d1))
  replace tm := fun μ1 n s h6 => (tm μ1 n s h6).trans (if_neg (not_not_intro d1))
  by_cases d2 : 1 ≤ v ∧ v ≤ 1000000
  case neg => exact lf_exc hk hX hI (tc.trans (if_pos d2)) (fun μ1 n s hx => (tm μ1 n s (lx6 hx hH)).trans (if_pos d2)) (by decide)
  replace tc := tc.trans (if_neg (not_not_intro d2))
  replace tm := fun μ1 n s h6 => (tm μ1 n s h6).trans (if_neg (not_not_intro d2))
  obtain ⟨x, hx, rfl⟩ := inR_n (c := f) (by omega) hJ.c2 d1
  have zx : (nI x).toNatClampNeg = x := nI_clamp (by omega)
  try rw [zx] at tc
  try simp only [zx] at tm
  have hn := hJ.fn (q := x) (by omega)
  have c2 : rd μ (X + 1) (73 + 6 * x + 2) = μ (M + 1) (73 + 6 * x + 2) := hA.g (lv_f hx (by decide))
  have m2 := m1_32 (x := μ (M + 1) (73 + 6 * x + 2)) (by omega)
  simp only [c2, m2] at tc
  by_cases d4 : μ (M + 1) (73 + 6 * x + 2) = -1
  case pos => exact lf_same hk hX hI (tc.trans (if_pos d4)) (fun μ1 n s hx => (tm μ1 n s (lx6 hx hH)).trans (if_pos (not_not_intro d4)))
  replace tc := tc.trans (if_neg d4)
  replace tm := fun μ1 n s h6 => (tm μ1 n s h6).trans (if_neg (not_not_intro d4))
  have hv := i64_v (lo := 1) (hi := 1000000) (by omega) d2 (by omega)
  have s1 := hA.put (k := 73 + 6 * x + 1) (v := v.toInt64) (w := v.toInt64) (by omega) (by omega) rfl
  have j1 : J (23 * (μ (M + 1) 6).toInt.toNat + k + 1 + 1) a e f i b p (sv (μ (M + 1)) (73 + 6 * x + 1) v.toInt64) := by
    refine (hJ.mono (Nat.le_succ _) (by omega)).put ?_
    rw [jB_F (by omega) (by decide)]
    simp only [Nat.reduceEqDiff, if_false, if_true, hx]
    exact ⟨by omega, by omega⟩
  have e6 : sv (μ (M + 1)) (73 + 6 * x + 1) v.toInt64 6 = μ (M + 1) 6 := by rw [sv_get, if_neg (by omega)]
  refine lf_act hk hX hI hH ⟨a, e, f, i, b, p, by rw [e6]; exact j1, s1, by rw [e6]; exact hd⟩ tc fun μ1 n s h6 => ?_
  rw [hA.g (lv_f hx (by decide))]
  exact tm μ1 n s h6
theorem op_148 (hS : SH y X M) {x : Int32} : OpI G y X M cdB 1 148 [.int x] 243 [.int x] := by
  intro k μ n s hk hI
  obtain ⟨hE, hF, hDL, hM, hMA, hX⟩ := hS
  have hI' := hI
  obtain ⟨⟨a, e, f, i, b, p, hJ, hA, hd⟩, ⟨e0, c, hH⟩, -⟩ := hI'
  have hO := hA.ct hJ
  have hc := hJ.2.1
  unfold Jc at hc
  have hN := hJ.1
  have d6 := hJ.d6
  have tc := t148 (G := G) (μ := μ) (n := n) (s := s) hE hH.1 hO (x := x)
  have tm := fun (μ1 : qMu) (n s : Nat) h6 => t243 (G := G) (μ := μ1) (n := n) (s := s) hM hMA hJ hH.1.2.2.2 h6 (x := x)
  have g0 : rd μ (X + 1) 0 = μ (M + 1) 0 := hA.g (lv_8 (by omega))
  have g1 : rd μ (X + 1) 1 = μ (M + 1) 1 := hA.g (lv_8 (by omega))
  have g2 : rd μ (X + 1) 2 = μ (M + 1) 2 := hA.g (lv_8 (by omega))
  have g3 : rd μ (X + 1) 3 = μ (M + 1) 3 := hA.g (lv_8 (by omega))
  have g4 : rd μ (X + 1) 4 = μ (M + 1) 4 := hA.g (lv_8 (by omega))
  have g5 : rd μ (X + 1) 5 = μ (M + 1) 5 := hA.g (lv_8 (by omega))
  have g6 := hA.d6 hJ
  have g7 : rd μ (X + 1) 7 = μ (M + 1) 7 := hA.g (lv_8 (by omega))
  try rw [g0] at tc
  try rw [g1] at tc
  try rw [g2] at tc
  try rw [g3] at tc
  try rw [g4] at tc
  try rw [g5] at tc
  by_cases d1 : inR x (μ (M + 1) 1)
  case neg => exact lf_exc hk hX hI (tc.trans (if_pos d1)) (fun μ1 n s hx => (tm μ1 n s (lx6 hx hH)).trans (if_pos d1)) (by decide)
  replace tc := tc.trans (if_neg (not_not_intro d1))
  replace tm := fun μ1 n s h6 => (tm μ1 n s h6).trans (if_neg (not_not_intro d1))
  obtain ⟨x, hx, rfl⟩ := inR_n (c := e) (by omega) hJ.c1 d1
  have zx : (nI x).toNatClampNeg = x := nI_clamp (by omega)
  try rw [zx] at tc
  try simp only [zx] at tm
  have s1 := hA.cov hJ hx
  have j1 : J (23 * (μ (M + 1) 6).toInt.toNat + k + 1 + 1) a e f i b p (pCvE (μ (M + 1)) x) := (hJ.mono (Nat.le_succ _) (by omega)).cvE hx
  have e6 : pCvE (μ (M + 1)) x 6 = μ (M + 1) 6 := pCvE_o (fun f => by omega) (by omega)
  refine lf_act hk hX hI hH ⟨a, e, f, i, b, p, by rw [e6]; exact j1, s1, by rw [e6]; exact hd⟩ tc fun μ1 n s h6 => ?_
  rw [s1.g (lv_e0 hx)]
  exact tm μ1 n s h6
theorem op_149 (hS : SH y X M) {x v : Int32} : OpI G y X M cd2 0 149 [.int x, .int v] 242 [.int x, .int v] := by
  intro k μ n s hk hI
  obtain ⟨hE, hF, hDL, hM, hMA, hX⟩ := hS
  have hI' := hI
  obtain ⟨⟨a, e, f, i, b, p, hJ, hA, hd⟩, ⟨e0, c, hH⟩, -⟩ := hI'
  have hO := hA.ct hJ
  have hc := hJ.2.1
  unfold Jc at hc
  have hN := hJ.1
  have d6 := hJ.d6
  have tc := t149 (G := G) (μ := μ) (n := n) (s := s) hE hH.1 hO (x := x) (v := v)
  have tm := fun (μ1 : qMu) (n s : Nat) h6 => t242 (G := G) (μ := μ1) (n := n) (s := s) hM hMA hJ hH.1.2.2.2 h6 (x := x) (v := v)
  have g0 : rd μ (X + 1) 0 = μ (M + 1) 0 := hA.g (lv_8 (by omega))
  have g1 : rd μ (X + 1) 1 = μ (M + 1) 1 := hA.g (lv_8 (by omega))
  have g2 : rd μ (X + 1) 2 = μ (M + 1) 2 := hA.g (lv_8 (by omega))
  have g3 : rd μ (X + 1) 3 = μ (M + 1) 3 := hA.g (lv_8 (by omega))
  have g4 : rd μ (X + 1) 4 = μ (M + 1) 4 := hA.g (lv_8 (by omega))
  have g5 : rd μ (X + 1) 5 = μ (M + 1) 5 := hA.g (lv_8 (by omega))
  have g6 := hA.d6 hJ
  have g7 : rd μ (X + 1) 7 = μ (M + 1) 7 := hA.g (lv_8 (by omega))
  try rw [g0] at tc
  try rw [g1] at tc
  try rw [g2] at tc
  try rw [g3] at tc
  try rw [g4] at tc
  try rw [g5] at tc
  by_cases d1 : inR x (μ (M + 1) 4)
  case neg => exact lf_exc hk hX hI (tc.trans (if_pos d1)) (fun μ1 n s hx => (tm μ1 n s (lx6 hx hH)).trans (if_pos d1)) (by decide)
  replace tc := tc.trans (if_neg (not_not_intro d1))
  replace tm := fun μ1 n s h6 => (tm μ1 n s h6).trans (if_neg (not_not_intro d1))
  by_cases d2 : 1 ≤ v ∧ v ≤ 60
  case neg => exact lf_exc hk hX hI (tc.trans (if_pos d2)) (fun μ1 n s hx => (tm μ1 n s (lx6 hx hH)).trans (if_pos d2)) (by decide)
  replace tc := tc.trans (if_neg (not_not_intro d2))
  replace tm := fun μ1 n s h6 => (tm μ1 n s h6).trans (if_neg (not_not_intro d2))
  obtain ⟨x, hx, rfl⟩ := inR_n (c := b) (by omega) hJ.c4 d1
  have zx : (nI x).toNatClampNeg = x := nI_clamp (by omega)
  try rw [zx] at tc
  try simp only [zx] at tm
  have hn := hJ.bn (q := x) (by omega)
  have c2 : rd μ (X + 1) (125 + 5 * x + 3) = μ (M + 1) (125 + 5 * x + 3) := hA.g (lv_b hx (by decide))
  have m2 := m1_32 (x := μ (M + 1) (125 + 5 * x + 3)) (by omega)
  simp only [c2, m2] at tc
  by_cases d4 : μ (M + 1) (125 + 5 * x + 3) = -1
  case pos => exact lf_same hk hX hI (tc.trans (if_pos d4)) (fun μ1 n s hx => (tm μ1 n s (lx6 hx hH)).trans (if_pos (not_not_intro d4)))
  replace tc := tc.trans (if_neg d4)
  replace tm := fun μ1 n s h6 => (tm μ1 n s h6).trans (if_neg (not_not_intro d4))
  have hv := i64_v (lo := 1) (hi := 60) (by omega) d2 (by omega)
  have e1 : (((μ (M + 1) (125 + 5 * x + 3)).toInt32 + v).toInt64) = μ (M + 1) (125 + 5 * x + 3) + v.toInt64 := by
    apply i64_ext
    rw [Int32.toInt_toInt64] at hv
    rw [Int32.toInt_toInt64, Int32.toInt_add, to32 (by omega) (by omega), ia (by rw [Int32.toInt_toInt64]; omega) (by rw [Int32.toInt_toInt64]; omega), Int32.toInt_toInt64]
    exact Int.bmod_eq_of_le (by omega) (by omega)
  have e2 : (μ (M + 1) (125 + 5 * x + 3)).toInt32 + v = (μ (M + 1) (125 + 5 * x + 3) + v.toInt64).toInt32 := by
    rw [← e1, i64_32]
  have s1 := hA.put (k := 125 + 5 * x + 3) (by omega) (by omega) e1
  have j1 : J (23 * (μ (M + 1) 6).toInt.toNat + k + 1 + 1) a e f i b p (sv (μ (M + 1)) (125 + 5 * x + 3) (μ (M + 1) (125 + 5 * x + 3) + v.toInt64)) := by
    refine (hJ.mono (Nat.le_succ _) (by omega)).put ?_
    rw [jB_Bl (by omega) (by decide)]
    simp only [Nat.reduceEqDiff, if_false, if_true]
    have := ia (x := μ (M + 1) (125 + 5 * x + 3)) (y := v.toInt64) (by omega) (by omega)
    constructor <;> dsimp only <;> omega
  have e6 : sv (μ (M + 1)) (125 + 5 * x + 3) (μ (M + 1) (125 + 5 * x + 3) + v.toInt64) 6 = μ (M + 1) 6 := by rw [sv_get, if_neg (by omega)]
  refine lf_act hk hX hI hH ⟨a, e, f, i, b, p, by rw [e6]; exact j1, s1, by rw [e6]; exact hd⟩ tc fun μ1 n s h6 => ?_
  rw [e2]
  exact tm μ1 n s h6
theorem op_120 (hS : SH y X M) {x : Int32} : OpI G y X M cdB 1 120 [.int x] 240 [.int x] := by
  intro k μ n s hk hI
  obtain ⟨hE, hF, hDL, hM, hMA, hX⟩ := hS
  have hI' := hI
  obtain ⟨⟨a, e, f, i, b, p, hJ, hA, hd⟩, ⟨e0, c, hH⟩, -⟩ := hI'
  have hO := hA.ct hJ
  have hc := hJ.2.1
  unfold Jc at hc
  have hN := hJ.1
  have d6 := hJ.d6
  have tc := t120 (G := G) (μ := μ) (n := n) (s := s) hE hH.1 hO (x := x)
  have tm := fun (μ1 : qMu) (n s : Nat) h6 => t240 (G := G) (μ := μ1) (n := n) (s := s) hM hMA hJ hH.1.2.2.2 h6 (x := x)
  have g0 : rd μ (X + 1) 0 = μ (M + 1) 0 := hA.g (lv_8 (by omega))
  have g1 : rd μ (X + 1) 1 = μ (M + 1) 1 := hA.g (lv_8 (by omega))
  have g2 : rd μ (X + 1) 2 = μ (M + 1) 2 := hA.g (lv_8 (by omega))
  have g3 : rd μ (X + 1) 3 = μ (M + 1) 3 := hA.g (lv_8 (by omega))
  have g4 : rd μ (X + 1) 4 = μ (M + 1) 4 := hA.g (lv_8 (by omega))
  have g5 : rd μ (X + 1) 5 = μ (M + 1) 5 := hA.g (lv_8 (by omega))
  have g6 := hA.d6 hJ
  have g7 : rd μ (X + 1) 7 = μ (M + 1) 7 := hA.g (lv_8 (by omega))
  try rw [g0] at tc
  try rw [g1] at tc
  try rw [g2] at tc
  try rw [g3] at tc
  try rw [g4] at tc
  try rw [g5] at tc
  by_cases d1 : inR x (μ (M + 1) 4)
  case neg => exact lf_exc hk hX hI (tc.trans (if_pos d1)) (fun μ1 n s hx => (tm μ1 n s (lx6 hx hH)).trans (if_pos d1)) (by decide)
  replace tc := tc.trans (if_neg (not_not_intro d1))
  replace tm := fun μ1 n s h6 => (tm μ1 n s h6).trans (if_neg (not_not_intro d1))
  obtain ⟨x, hx, rfl⟩ := inR_n (c := b) (by omega) hJ.c4 d1
  have zx : (nI x).toNatClampNeg = x := nI_clamp (by omega)
  try rw [zx] at tc
  try simp only [zx] at tm
  have hn := hJ.bn (q := x) (by omega)
  have c2 : rd μ (X + 1) (125 + 5 * x + 3) = μ (M + 1) (125 + 5 * x + 3) := hA.g (lv_b hx (by decide))
  have m2 := m1_32 (x := μ (M + 1) (125 + 5 * x + 3)) (by omega)
  simp only [c2, m2] at tc
  by_cases d3 : μ (M + 1) (125 + 5 * x + 3) = -1
  case pos => exact lf_same hk hX hI (tc.trans (if_pos d3)) (fun μ1 n s hx => (tm μ1 n s (lx6 hx hH)).trans (if_pos (not_not_intro d3)))
  replace tc := tc.trans (if_neg d3)
  replace tm := fun μ1 n s h6 => (tm μ1 n s h6).trans (if_neg (not_not_intro d3))
  have s1 := hA.payB hJ hx (by omega)
  have j1 := hJ.bl hx (by omega)
  obtain ⟨u, hu, hu2⟩ := hJ.be hx
  obtain ⟨w, hw, hw2⟩ := hJ.ba hx
  have eo : ∀ k, 73 ≤ k → k < 191 → k ≠ 125 + 5 * x + 3 → pBl (μ (M + 1)) x k = μ (M + 1) k := fun k h1 h2 h3 => by
    unfold pBl pBil
    rw [pLog_lo h2 (by omega)]
    unfold pBil2
    rw [sv_get, if_neg h3, enB_of hu2 (by omega), acB_of hw2 (by omega), pSpe_x hJ.out hu h1 (by omega)]
  have e6 : pBl (μ (M + 1)) x 6 = μ (M + 1) 6 := by
    unfold pBl pBil
    rw [pLog_lo (by omega) (by omega)]
    unfold pBil2
    rw [sv_get, if_neg (by omega), enB_of hu2 (by omega), acB_of hw2 (by omega), pSpe_o (fun f => by omega) (by omega) (by omega) (by omega)]
  have ev : kMon (kPayB (rd μ (X + 1)) x) (kPayB (rd μ (X + 1)) x (125 + 5 * x)).toInt32 = pBl (μ (M + 1)) x (13 + 6 * enB (μ (M + 1)) x) := by
    rw [s1.g (lv_b0 hx), eo _ (by omega) (by omega) (by omega), hu2, i64_32, enB_of hu2 (by omega)]
    unfold kMon
    rw [s1.c1 j1, if_pos (c_in hu (by omega)), nI_clamp (by omega), s1.g (lv_e0 hu)]
  refine lf_act hk hX hI hH ⟨a, e, f, i, b, p, by rw [e6]; exact j1, s1, by rw [e6]; exact hd⟩ tc fun μ1 n s h6 => ?_
  rw [ev]
  exact tm μ1 n s h6
end OPT
