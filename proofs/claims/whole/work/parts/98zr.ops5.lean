/-! ===== A call of the class beside the model's, 5 ===== -/
section OPW
variable {G : qG} {y : Nat → Option qSh} {μ ν : qMu} {X M k n s N a e f i b p e0 c : Nat} {C D : Row} {cd : Nat → Int64} {kd cm mm : Nat} {ca ma : List Value} {C' D' : Row} {v v' : Value} {E : Nat}
theorem inM_R {x : Int32} {c : Nat} {d : Int64} (hc : c ≤ 400) (hd : d = (nI c).toInt64) : inM x d = inR x d := by
  subst hd
  unfold inM inR
  rw [i64_32, (nI_m1 hc).1]
  apply propext
  have h1 := (nI_m1 hc).2
  rw [Int64.le_iff_toInt_le, Int64.le_iff_toInt_le, Int32.le_iff_toInt_le, Int32.lt_iff_toInt_lt, Int32.toInt_toInt64, Int32.toInt_toInt64, h1, nI_32 (by omega)]
  show 0 ≤ _ ∧ _ ↔ 0 ≤ _ ∧ _
  omega
theorem inZ_n {z : Int32} {k : Nat} (hk : k < 2 ^ 31) : inZ z (nI k).toInt64 = (0 ≤ z ∧ z ≤ nI k) := by
  unfold inZ
  apply propext
  rw [Int64.le_iff_toInt_le, Int64.le_iff_toInt_le, Int32.le_iff_toInt_le, Int32.le_iff_toInt_le, Int32.toInt_toInt64, Int32.toInt_toInt64]
  exact Iff.rfl
/-- a kind from 0 to k -/
theorem kd_n {z : Int32} {k : Nat} (hk : k < 2 ^ 31) (h : 0 ≤ z ∧ z ≤ nI k) : ∃ q, q ≤ k ∧ z = nI q := by
  have h0 := i32_of h.1
  refine ⟨z.toNatClampNeg, ?_, h0⟩
  have h2 := h.2
  rw [h0, mI_le (by have := Int32.toInt_lt z; show z.toInt.toNat < _; omega) hk] at h2
  exact h2
theorem kd_ne {z : Int32} {k j : Nat} (hk : k < 2 ^ 31) (hj : j ≤ k) (h : ¬ (0 ≤ z ∧ z ≤ nI k)) : ¬ z = nI j := fun q => h ⟨by rw [q]; exact (mI_le (i := 0) (by omega) (by omega)).mpr (by omega), by rw [q]; exact (mI_le (by omega) hk).mpr hj⟩
theorem sm_congr {f g : Nat → Int64} : ∀ n, (∀ j, j < n → f j = g j) → sm f n = sm g n
  | 0, _ => rfl
  | n + 1, h => by rw [sm, sm, sm_congr n fun j hj => h j (by omega), h n (by omega)]
theorem smB_congr {b : Int64} {f g : Nat → Int64} : ∀ n, (∀ j, j < n → f j = g j) → smB b f n = smB b g n
  | 0, _ => rfl
  | n + 1, h => by rw [smB, smB, smB_congr n fun j hj => h j (by omega), h n (by omega)]
theorem smB_sm {b : Int64} {f : Nat → Int64} : ∀ n, smB b f n = b + sm f n
  | 0 => (Int64.add_zero b).symm
  | n + 1 => by rw [smB, sm, smB_sm n, Int64.add_assoc]
theorem mn40 {l : Nat} (hl : l ≤ 2 ^ 20) : mnI 40 (nI l) = nI (min 40 l) := by
  unfold mnI
  have h : (nI l < 40) = (l < 40) := mI_lt (k := 40) (by omega) (by omega)
  simp only [h]
  split
  · rw [Nat.min_eq_right (by omega)]
  · rw [Nat.min_eq_left (by omega)]; rfl
theorem ob_n (hJ : J N a e f i b p D) {q : Nat} (hq : q < e) : (D (13 + 6 * q + 4)).toInt32 = -1 ∨ ∃ o, o < q ∧ (D (13 + 6 * q + 4)).toInt32 = nI o := hJ.out.2 q hq
/-- how deep an envelope lies -/
theorem dep_eq (hJ : J N a e f i b p D) (h : AL a e f i b C D) : ∀ (k : Nat) (o : Int32) (d : Nat), d + k = 10 → (o = -1 ∨ ∃ j, j < e ∧ o = nI j) → kDepL C k o = nI (pDpL D k o d)
  | 0, o, d, hd, _ => by
    rw [kDepL, pDpL, show d = 10 by omega]
    rfl
  | k + 1, o, d, hd, ho => by
    have hc := hJ.2.1
    unfold Jc at hc
    rw [kDepL, pDpL, h.c1 hJ]
    rcases ho with rfl | ⟨j, hj, rfl⟩
    · rw [if_neg (fun h => absurd h.1 (by decide)), if_pos rfl, show 10 - (k + 1) = d by omega]
    · rw [if_pos (c_in hj (by omega)), if_neg (nI_ne (by omega)), nI_clamp (by omega), h.g (lv_e hj (by decide))]
      refine dep_eq hJ h k _ (d + 1) (by omega) ?_
      rcases ob_n hJ hj with q | ⟨o, ho, q⟩
      · exact Or.inl q
      · exact Or.inr ⟨o, by omega, q⟩
/-- masks of envelopes -/
theorem bt_eq : ∀ m, m < 1024 → ∀ j, j < 10 → (nI m &&& 1 <<< (nI j &&& 31) = 0 ↔ ¬ nI m >>> (nI j &&& 31) &&& 1 = 1) := by decide +kernel
theorem bt_or : ∀ m, m < 1024 → ∀ j, j < 10 → nI m ||| 1 <<< (nI j &&& 31) = nI (m ||| 1 <<< j) ∧ m ||| 1 <<< j < 1024 := by decide +kernel
theorem ins_eq (hJ : J N a e f i b p D) (h : AL a e f i b C D) {x : Nat} (hx : x < e) : ∀ m, x + 1 + m ≤ e → kWin C (nI x) (x + 1 + m) = pIns D x m ∧ ∃ w, w < 1024 ∧ pIns D x m = nI w
  | 0, _ => by
    have hc := hJ.2.1
    unfold Jc at hc
    have h0 : ∀ j, j ≤ x + 1 → kWin C (nI x) j = 0 := by
      intro j
      induction j with
      | zero => intro _; rfl
      | succ j ih =>
        intro hj
        rw [kWin, ih (by omega), h.g (lv_e (q := j) (by omega) (by decide))]
        rcases ob_n hJ (q := j) (by omega) with q | ⟨o, ho, q⟩
        · rw [if_pos q]
        · rw [if_neg (by rw [q]; exact nI_ne (by omega)), if_neg]
          rw [q, mI_eq (by omega) (by omega)]
          intro q2
          rcases q2 with q2 | q2
          · omega
          · exact q2 (Int32.zero_and)
    exact ⟨h0 _ (Nat.le_refl _), 0, by decide, rfl⟩
  | m + 1, hm => by
    have hc := hJ.2.1
    unfold Jc at hc
    obtain ⟨ih, w, hw, iw⟩ := ins_eq hJ h hx m (by omega)
    show kWin C (nI x) (x + 1 + m + 1) = _ ∧ _
    rw [kWin, pIns, ih, iw, h.g (lv_e (q := x + 1 + m) (by omega) (by decide))]
    obtain ⟨b1, b2⟩ := bt_or w hw (x + 1 + m) (by omega)
    rcases ob_n hJ (q := x + 1 + m) (by omega) with q | ⟨o, ho, q⟩
    · rw [q, if_pos rfl, if_neg, Int32.or_zero]
      · exact ⟨rfl, w, hw, rfl⟩
      · rintro (q2 | q2)
        · exact nI_ne (by omega) q2.symm
        · exact q2.1 rfl
    · rw [q, if_neg (nI_ne (by omega))]
      have e1 := bt_eq w hw o (by omega)
      have e2 : ¬ nI o = -1 := nI_ne (by omega)
      by_cases q2 : nI o = nI x ∨ ¬ nI w &&& 1 <<< (nI o &&& 31) = 0
      · rw [if_pos q2, if_pos (q2.imp id fun q3 => ⟨e2, Decidable.not_not.mp (mt e1.mpr q3)⟩), b1]
        exact ⟨rfl, _, b2, rfl⟩
      · rw [if_neg q2, if_neg (fun q3 => q2 (q3.imp id fun q4 q5 => e1.mp q5 q4.2)), Int32.or_zero]
        exact ⟨rfl, w, hw, rfl⟩
theorem win_eq (hJ : J N a e f i b p D) (h : AL a e f i b C D) {x : Nat} (hx : x < e) : kWin C (nI x) e = pIns D x (e - x - 1) ∧ ∃ w, w < 1024 ∧ pIns D x (e - x - 1) = nI w := by
  have := ins_eq hJ h hx (e - x - 1) (by omega)
  rwa [show x + 1 + (e - x - 1) = e by omega] at this
theorem tre_eq (hJ : J N a e f i b p D) (h : AL a e f i b C D) {w : Nat} (hw : w < 1024) {v u : Int64} (hv : v = u) : ∀ k, k ≤ e → kTre C (nI w) v k = pTre D (nI w) u k
  | 0, _ => hv
  | k + 1, hk => by
    have hc := hJ.2.1
    unfold Jc at hc
    have e1 := bt_eq w hw k (by omega)
    rw [kTre, pTre, tre_eq hJ h hw hv k (by omega), h.g (lv_e0 (q := k) (by omega))]
    by_cases q : nI w &&& 1 <<< (nI k &&& 31) = 0
    · rw [if_pos q, if_neg (e1.mp q), Int64.add_zero]
    · rw [if_neg q, if_pos (Decidable.not_not.mp (mt e1.mpr q))]
theorem op_52 (hS : SH y X M) : OpI G y X M cd0 0 52 [] 182 [] := by
  intro k μ n s hk hI
  obtain ⟨hE, hF, hDL, hM, hMA, hX⟩ := hS
  have hI' := hI
  obtain ⟨-, -, ⟨L, st, P, bg, t1, t2, t3, t4, t5, t6, t7, t8⟩, -⟩ := hI'
  have ev : (μ (X + 42) 4).toInt32 = (μ M 15).toInt32 := by
    rw [t7, t2]
    unfold rS
    simp only [Nat.reduceEqDiff, if_false, if_true, i64_32]
  refine lf_same hk hX hI (v := .int (μ (X + 42) 4).toInt32) ?_ fun μ1 n s hx => ?_
  · rw [wr_rd]; exact t52 hE
  · rw [ev, ← hx.eqM]; exact t182 hM
theorem op_53 (hS : SH y X M) : OpI G y X M cd0 0 53 [] 183 [] := by
  intro k μ n s hk hI
  obtain ⟨hE, hF, hDL, hM, hMA, hX⟩ := hS
  have hI' := hI
  obtain ⟨-, -, ⟨L, st, P, bg, t1, t2, t3, t4, t5, t6, t7, t8⟩, -⟩ := hI'
  have ev : (μ (X + 42) 6).toInt32 = (μ M 16).toInt32 := by
    rw [t8, t2]
    unfold rS
    simp only [Nat.reduceEqDiff, if_false, if_true, i64_32]
  refine lf_same hk hX hI (v := .int (μ (X + 42) 6).toInt32) ?_ fun μ1 n s hx => ?_
  · rw [wr_rd]; exact t53 hE
  · rw [ev, ← hx.eqM]; exact t183 hM
theorem op_54 (hS : SH y X M) : OpI G y X M cd0 0 54 [] 186 [] := by
  intro k μ n s hk hI
  obtain ⟨hE, hF, hDL, hM, hMA, hX⟩ := hS
  have hI' := hI
  obtain ⟨⟨a, e, f, i, b, p, hJ, hA, hd⟩, ⟨e0, c, hH⟩, -⟩ := hI'
  have hO := hA.ct hJ
  have hc := hJ.2.1
  unfold Jc at hc
  have hN := hJ.1
  have d6 := hJ.d6
  have tc := t54 (G := G) (μ := μ) (C := rd μ (X + 1)) (n := n) (s := s) hE 
  have tm := fun (μ1 : qMu) (n s : Nat) (h6 : (μ1 M 6).toInt32 = nI c) => t186 (G := G) (μ := μ1) (D := μ (M + 1)) (n := n) (s := s) hM 
  have g0 : rd μ (X + 1) 0 = μ (M + 1) 0 := hA.g (lv_8 (by omega))
  have g1 : rd μ (X + 1) 1 = μ (M + 1) 1 := hA.g (lv_8 (by omega))
  have g2 : rd μ (X + 1) 2 = μ (M + 1) 2 := hA.g (lv_8 (by omega))
  have g3 : rd μ (X + 1) 3 = μ (M + 1) 3 := hA.g (lv_8 (by omega))
  have g4 : rd μ (X + 1) 4 = μ (M + 1) 4 := hA.g (lv_8 (by omega))
  have g5 : rd μ (X + 1) 5 = μ (M + 1) 5 := hA.g (lv_8 (by omega))
  have g6 := hA.d6 hJ
  have g7 : rd μ (X + 1) 7 = μ (M + 1) 7 := hA.g (lv_8 (by omega))
  try rw [g0] at tc
  try rw [g1] at tc
  try rw [g2] at tc
  try rw [g3] at tc
  try rw [g4] at tc
  try rw [g5] at tc
  rw [g6.1] at tc
  exact lf_same hk hX hI tc (fun μ1 n s hx => tm μ1 n s (lx6 hx hH))
theorem op_55 (hS : SH y X M) : OpI G y X M cd0 1 55 [] 187 [] := by
  intro k μ n s hk hI
  obtain ⟨hE, hF, hDL, hM, hMA, hX⟩ := hS
  have hI' := hI
  obtain ⟨⟨a, e, f, i, b, p, hJ, hA, hd⟩, ⟨e0, c, hH⟩, -⟩ := hI'
  have hO := hA.ct hJ
  have hc := hJ.2.1
  unfold Jc at hc
  have hN := hJ.1
  have d6 := hJ.d6
  have tc := t55 (G := G) (μ := μ) (C := rd μ (X + 1)) (n := n) (s := s) hE 
  have tm := fun (μ1 : qMu) (n s : Nat) (h6 : (μ1 M 6).toInt32 = nI c) => t187 (G := G) (μ := μ1) (D := μ (M + 1)) (n := n) (s := s) hM 
  have g0 : rd μ (X + 1) 0 = μ (M + 1) 0 := hA.g (lv_8 (by omega))
  have g1 : rd μ (X + 1) 1 = μ (M + 1) 1 := hA.g (lv_8 (by omega))
  have g2 : rd μ (X + 1) 2 = μ (M + 1) 2 := hA.g (lv_8 (by omega))
  have g3 : rd μ (X + 1) 3 = μ (M + 1) 3 := hA.g (lv_8 (by omega))
  have g4 : rd μ (X + 1) 4 = μ (M + 1) 4 := hA.g (lv_8 (by omega))
  have g5 : rd μ (X + 1) 5 = μ (M + 1) 5 := hA.g (lv_8 (by omega))
  have g6 := hA.d6 hJ
  have g7 : rd μ (X + 1) 7 = μ (M + 1) 7 := hA.g (lv_8 (by omega))
  try rw [g0] at tc
  try rw [g1] at tc
  try rw [g2] at tc
  try rw [g3] at tc
  try rw [g4] at tc
  try rw [g5] at tc
  rw [g7] at tc
  exact lf_same hk hX hI tc (fun μ1 n s hx => tm μ1 n s (lx6 hx hH))
theorem op_56 (hS : SH y X M) : OpI G y X M cd0 0 56 [] 206 [] := by
  intro k μ n s hk hI
  obtain ⟨hE, hF, hDL, hM, hMA, hX⟩ := hS
  have hI' := hI
  obtain ⟨⟨a, e, f, i, b, p, hJ, hA, hd⟩, ⟨e0, c, hH⟩, -⟩ := hI'
  have hO := hA.ct hJ
  have hc := hJ.2.1
  unfold Jc at hc
  have hN := hJ.1
  have d6 := hJ.d6
  have tc := t56 (G := G) (μ := μ) (n := n) (s := s) hE hO.1 
  have tm := fun (μ1 : qMu) (n s : Nat) (h6 : (μ1 M 6).toInt32 = nI c) => t206 (G := G) (μ := μ1) (n := n) (s := s) hM hJ 
  have g0 : rd μ (X + 1) 0 = μ (M + 1) 0 := hA.g (lv_8 (by omega))
  have g1 : rd μ (X + 1) 1 = μ (M + 1) 1 := hA.g (lv_8 (by omega))
  have g2 : rd μ (X + 1) 2 = μ (M + 1) 2 := hA.g (lv_8 (by omega))
  have g3 : rd μ (X + 1) 3 = μ (M + 1) 3 := hA.g (lv_8 (by omega))
  have g4 : rd μ (X + 1) 4 = μ (M + 1) 4 := hA.g (lv_8 (by omega))
  have g5 : rd μ (X + 1) 5 = μ (M + 1) 5 := hA.g (lv_8 (by omega))
  have g6 := hA.d6 hJ
  have g7 : rd μ (X + 1) 7 = μ (M + 1) 7 := hA.g (lv_8 (by omega))
  try rw [g0] at tc
  try rw [g1] at tc
  try rw [g2] at tc
  try rw [g3] at tc
  try rw [g4] at tc
  try rw [g5] at tc
  have e1 : sm (fun q => rd μ (X + 1) (9 + q)) a = sm (fun q => μ (M + 1) (9 + q)) a := sm_congr a fun j hj => hA.g (lv_a hj)
  have e2 : sm (fun q => rd μ (X + 1) (13 + 6 * q)) e = sm (fun q => μ (M + 1) (13 + 6 * q)) e := sm_congr e fun j hj => hA.g (lv_e0 hj)
  have e3 : sm (fun q => rd μ (X + 1) (73 + 6 * q)) f = sm (fun q => μ (M + 1) (73 + 6 * q)) f := sm_congr f fun j hj => hA.g (lv_f0 hj)
  have e4 : rd μ (X + 1) 185 = μ (M + 1) 185 := hA.g (by unfold Live; omega)
  unfold kBal at tc
  rw [e1, e2, e3, e4, g7] at tc
  simp only [smB_sm, Int64.zero_add] at tm
  by_cases q : sm (fun q => μ (M + 1) (9 + q)) a + μ (M + 1) 185 = μ (M + 1) 7 + sm (fun q => μ (M + 1) (13 + 6 * q)) e + sm (fun q => μ (M + 1) (73 + 6 * q)) f
  · refine lf_same hk hX hI (tc.1 q) fun μ1 n s hx => ?_
    have := tm μ1 n s (lx6 hx hH)
    rwa [if_pos q] at this
  · refine lf_same hk hX hI (tc.2 q) fun μ1 n s hx => ?_
    have := tm μ1 n s (lx6 hx hH)
    rwa [if_neg q] at this
theorem op_74 (hS : SH y X M) {x : Int32} : OpI G y X M cdA 0 74 [.int x] 184 [.int x] := by
  intro k μ n s hk hI
  obtain ⟨hE, hF, hDL, hM, hMA, hX⟩ := hS
  have hI' := hI
  obtain ⟨⟨a, e, f, i, b, p, hJ, hA, hd⟩, ⟨e0, c, hH⟩, -⟩ := hI'
  have hO := hA.ct hJ
  have hc := hJ.2.1
  unfold Jc at hc
  have hN := hJ.1
  have d6 := hJ.d6
  have tc := t74 (G := G) (μ := μ) (C := rd μ (X + 1)) (n := n) (s := s) hE (z := x)
  have tm := fun (μ1 : qMu) (n s : Nat) h6 => t184 (G := G) (μ := μ1) (n := n) (s := s) hM hMA hJ hH.1.2.2.2 h6 (x := x)
  have g0 : rd μ (X + 1) 0 = μ (M + 1) 0 := hA.g (lv_8 (by omega))
  have g1 : rd μ (X + 1) 1 = μ (M + 1) 1 := hA.g (lv_8 (by omega))
  have g2 : rd μ (X + 1) 2 = μ (M + 1) 2 := hA.g (lv_8 (by omega))
  have g3 : rd μ (X + 1) 3 = μ (M + 1) 3 := hA.g (lv_8 (by omega))
  have g4 : rd μ (X + 1) 4 = μ (M + 1) 4 := hA.g (lv_8 (by omega))
  have g5 : rd μ (X + 1) 5 = μ (M + 1) 5 := hA.g (lv_8 (by omega))
  have g6 := hA.d6 hJ
  have g7 : rd μ (X + 1) 7 = μ (M + 1) 7 := hA.g (lv_8 (by omega))
  try rw [g0] at tc
  try rw [g1] at tc
  try rw [g2] at tc
  try rw [g3] at tc
  try rw [g4] at tc
  try rw [g5] at tc
  by_cases d1 : 0 ≤ x ∧ x ≤ 7
  case neg =>
    refine lf_exc hk hX hI (E := 101) (tc.trans ?_) (fun μ1 n s hx => (tm μ1 n s (lx6 hx hH)).trans (if_pos d1)) (by decide)
    rw [if_neg (kd_ne (k := 7) (by decide) (by decide) d1), if_neg (kd_ne (k := 7) (by decide) (by decide) d1), if_neg (kd_ne (k := 7) (by decide) (by decide) d1), if_neg (kd_ne (k := 7) (by decide) (by decide) d1), if_neg (kd_ne (k := 7) (by decide) (by decide) d1), if_neg (kd_ne (k := 7) (by decide) (by decide) d1), if_neg (kd_ne (k := 7) (by decide) (by decide) d1), if_neg (kd_ne (k := 7) (by decide) (by decide) d1)]
  replace tm := fun μ1 n s h6 => (tm μ1 n s h6).trans (if_neg (not_not_intro d1))
  obtain ⟨l, l1, l2, l3, l4, -⟩ := hA.2
  obtain ⟨q, hq, rfl⟩ := kd_n (k := 7) (by decide) d1
  have hq : q = 0 ∨ q = 1 ∨ q = 2 ∨ q = 3 ∨ q = 4 ∨ q = 5 ∨ q = 6 ∨ q = 7 := by omega
  rcases hq with rfl | rfl | rfl | rfl | rfl | rfl | rfl | rfl
  · refine lf_same hk hX hI (tc.trans (by rw [if_pos rfl])) fun μ1 n s hx => ?_
    have := tm μ1 n s (lx6 hx hH)
    rwa [if_neg (by decide), if_neg (by decide)] at this
  · refine lf_same hk hX hI (tc.trans (by rw [if_neg (by decide), if_pos rfl])) fun μ1 n s hx => ?_
    have := tm μ1 n s (lx6 hx hH)
    rwa [if_neg (by decide), if_neg (by decide)] at this
  · refine lf_same hk hX hI (tc.trans (by rw [if_neg (by decide), if_neg (by decide), if_pos rfl])) fun μ1 n s hx => ?_
    have := tm μ1 n s (lx6 hx hH)
    rwa [if_neg (by decide), if_neg (by decide)] at this
  · refine lf_same hk hX hI (tc.trans (by rw [if_neg (by decide), if_neg (by decide), if_neg (by decide), if_pos rfl])) fun μ1 n s hx => ?_
    have := tm μ1 n s (lx6 hx hH)
    rwa [if_neg (by decide), if_neg (by decide)] at this
  · refine lf_same hk hX hI (tc.trans (by rw [if_neg (by decide), if_neg (by decide), if_neg (by decide), if_neg (by decide), if_pos rfl])) fun μ1 n s hx => ?_
    have := tm μ1 n s (lx6 hx hH)
    rwa [if_neg (by decide), if_neg (by decide)] at this
  · refine lf_same hk hX hI (tc.trans (by rw [if_neg (by decide), if_neg (by decide), if_neg (by decide), if_neg (by decide), if_neg (by decide), if_pos rfl])) fun μ1 n s hx => ?_
    have := tm μ1 n s (lx6 hx hH)
    rwa [if_neg (by decide), if_neg (by decide)] at this
  · refine lf_same hk hX hI (tc.trans (by rw [if_neg (by decide), if_neg (by decide), if_neg (by decide), if_neg (by decide), if_neg (by decide), if_neg (by decide), if_pos rfl])) fun μ1 n s hx => ?_
    have := tm μ1 n s (lx6 hx hH)
    rw [if_pos (show nI 6 = 6 from rfl)] at this
    rw [hH.1.2.2.1]
    exact this
  · refine lf_same hk hX hI (tc.trans (by rw [if_neg (by decide), if_neg (by decide), if_neg (by decide), if_neg (by decide), if_neg (by decide), if_neg (by decide), if_neg (by decide), if_pos rfl])) fun μ1 n s hx => ?_
    have := tm μ1 n s (lx6 hx hH)
    rw [if_neg (by decide), if_pos (show nI 7 = 7 from rfl), l2, i64_32, mn40 l1] at this
    rw [l3]
    exact this
theorem op_75 (hS : SH y X M) {x : Int32} : OpI G y X M cdB 1 75 [.int x] 188 [.int x] := by
  intro k μ n s hk hI
  obtain ⟨hE, hF, hDL, hM, hMA, hX⟩ := hS
  have hI' := hI
  obtain ⟨⟨a, e, f, i, b, p, hJ, hA, hd⟩, ⟨e0, c, hH⟩, -⟩ := hI'
  have hO := hA.ct hJ
  have hc := hJ.2.1
  unfold Jc at hc
  have hN := hJ.1
  have d6 := hJ.d6
  have tc := t75 (G := G) (μ := μ) (n := n) (s := s) hE hO.1 (x := x)
  have tm := fun (μ1 : qMu) (n s : Nat) (h6 : (μ1 M 6).toInt32 = nI c) => t188 (G := G) (μ := μ1) (D := μ (M + 1)) (n := n) (s := s) hM (c := a) (x := x) (by omega) hJ.c0
  have g0 : rd μ (X + 1) 0 = μ (M + 1) 0 := hA.g (lv_8 (by omega))
  have g1 : rd μ (X + 1) 1 = μ (M + 1) 1 := hA.g (lv_8 (by omega))
  have g2 : rd μ (X + 1) 2 = μ (M + 1) 2 := hA.g (lv_8 (by omega))
  have g3 : rd μ (X + 1) 3 = μ (M + 1) 3 := hA.g (lv_8 (by omega))
  have g4 : rd μ (X + 1) 4 = μ (M + 1) 4 := hA.g (lv_8 (by omega))
  have g5 : rd μ (X + 1) 5 = μ (M + 1) 5 := hA.g (lv_8 (by omega))
  have g6 := hA.d6 hJ
  have g7 : rd μ (X + 1) 7 = μ (M + 1) 7 := hA.g (lv_8 (by omega))
  try rw [g0] at tc
  try rw [g1] at tc
  try rw [g2] at tc
  try rw [g3] at tc
  try rw [g4] at tc
  try rw [g5] at tc
  simp only [inM_R (show a ≤ 400 by omega) hJ.c0] at tm
  by_cases d2 : inR x (μ (M + 1) 0)
  case neg => exact lf_exc hk hX hI (tc.trans (if_neg d2)) (fun μ1 n s hx => (tm μ1 n s (lx6 hx hH)).trans (if_neg d2)) (by decide)
  replace tc := tc.trans (if_pos d2)
  replace tm := fun μ1 n s h6 => (tm μ1 n s h6).trans (if_pos d2)
  obtain ⟨x, hx, rfl⟩ := inR_n (c := a) (by omega) hJ.c0 d2
  have zx : (nI x).toNatClampNeg = x := nI_clamp (by omega)
  try rw [zx] at tc
  try simp only [zx] at tm
  rw [hA.g (lv_a hx)] at tc
  exact lf_same hk hX hI tc fun μ1 n s hx => tm μ1 n s (lx6 hx hH)
theorem op_84 (hS : SH y X M) {x : Int32} : OpI G y X M cdB 0 84 [.int x] 194 [.int x] := by
  intro k μ n s hk hI
  obtain ⟨hE, hF, hDL, hM, hMA, hX⟩ := hS
  have hI' := hI
  obtain ⟨⟨a, e, f, i, b, p, hJ, hA, hd⟩, ⟨e0, c, hH⟩, -⟩ := hI'
  have hO := hA.ct hJ
  have hc := hJ.2.1
  unfold Jc at hc
  have hN := hJ.1
  have d6 := hJ.d6
  have tc := t84 (G := G) (μ := μ) (n := n) (s := s) hE hO.1 (x := x)
  have tm := fun (μ1 : qMu) (n s : Nat) h6 => t194 (G := G) (μ := μ1) (n := n) (s := s) hM hMA hJ hH.1.2.2.2 h6 (x := x)
  have g0 : rd μ (X + 1) 0 = μ (M + 1) 0 := hA.g (lv_8 (by omega))
  have g1 : rd μ (X + 1) 1 = μ (M + 1) 1 := hA.g (lv_8 (by omega))
  have g2 : rd μ (X + 1) 2 = μ (M + 1) 2 := hA.g (lv_8 (by omega))
  have g3 : rd μ (X + 1) 3 = μ (M + 1) 3 := hA.g (lv_8 (by omega))
  have g4 : rd μ (X + 1) 4 = μ (M + 1) 4 := hA.g (lv_8 (by omega))
  have g5 : rd μ (X + 1) 5 = μ (M + 1) 5 := hA.g (lv_8 (by omega))
  have g6 := hA.d6 hJ
  have g7 : rd μ (X + 1) 7 = μ (M + 1) 7 := hA.g (lv_8 (by omega))
  try rw [g0] at tc
  try rw [g1] at tc
  try rw [g2] at tc
  try rw [g3] at tc
  try rw [g4] at tc
  try rw [g5] at tc
  by_cases d1 : inR x (μ (M + 1) 1)
  case neg => exact lf_exc hk hX hI (tc.trans (if_neg d1)) (fun μ1 n s hx => (tm μ1 n s (lx6 hx hH)).trans (if_pos d1)) (by decide)
  replace tc := tc.trans (if_pos d1)
  replace tm := fun μ1 n s h6 => (tm μ1 n s h6).trans (if_neg (not_not_intro d1))
  obtain ⟨x, hx, rfl⟩ := inR_n (c := e) (by omega) hJ.c1 d1
  have zx : (nI x).toNatClampNeg = x := nI_clamp (by omega)
  try rw [zx] at tc
  try simp only [zx] at tm
  rw [(win_eq hJ hA hx).1] at tc
  exact lf_same hk hX hI tc fun μ1 n s hx => tm μ1 n s (lx6 hx hH)
theorem op_82 (hS : SH y X M) {x : Int32} : OpI G y X M cdB 1 82 [.int x] 196 [.int x] := by
  intro k μ n s hk hI
  obtain ⟨hE, hF, hDL, hM, hMA, hX⟩ := hS
  have hI' := hI
  obtain ⟨⟨a, e, f, i, b, p, hJ, hA, hd⟩, ⟨e0, c, hH⟩, -⟩ := hI'
  have hO := hA.ct hJ
  have hc := hJ.2.1
  unfold Jc at hc
  have hN := hJ.1
  have d6 := hJ.d6
  have tc := t82 (G := G) (μ := μ) (n := n) (s := s) hE hO.1 (x := x)
  have tm := fun (μ1 : qMu) (n s : Nat) h6 => t196 (G := G) (μ := μ1) (n := n) (s := s) hM hMA hJ hH.1.2.2.2 h6 (x := x)
  have g0 : rd μ (X + 1) 0 = μ (M + 1) 0 := hA.g (lv_8 (by omega))
  have g1 : rd μ (X + 1) 1 = μ (M + 1) 1 := hA.g (lv_8 (by omega))
  have g2 : rd μ (X + 1) 2 = μ (M + 1) 2 := hA.g (lv_8 (by omega))
  have g3 : rd μ (X + 1) 3 = μ (M + 1) 3 := hA.g (lv_8 (by omega))
  have g4 : rd μ (X + 1) 4 = μ (M + 1) 4 := hA.g (lv_8 (by omega))
  have g5 : rd μ (X + 1) 5 = μ (M + 1) 5 := hA.g (lv_8 (by omega))
  have g6 := hA.d6 hJ
  have g7 : rd μ (X + 1) 7 = μ (M + 1) 7 := hA.g (lv_8 (by omega))
  try rw [g0] at tc
  try rw [g1] at tc
  try rw [g2] at tc
  try rw [g3] at tc
  try rw [g4] at tc
  try rw [g5] at tc
  by_cases d1 : inR x (μ (M + 1) 1)
  case neg => exact lf_exc hk hX hI (tc.trans (if_pos d1)) (fun μ1 n s hx => (tm μ1 n s (lx6 hx hH)).trans (if_pos d1)) (by decide)
  replace tc := tc.trans (if_neg (not_not_intro d1))
  replace tm := fun μ1 n s h6 => (tm μ1 n s h6).trans (if_neg (not_not_intro d1))
  obtain ⟨x, hx, rfl⟩ := inR_n (c := e) (by omega) hJ.c1 d1
  have zx : (nI x).toNatClampNeg = x := nI_clamp (by omega)
  try rw [zx] at tc
  try simp only [zx] at tm
  obtain ⟨e1, w, hw, e2⟩ := win_eq hJ hA hx
  rw [e1, e2, tre_eq hJ hA hw (hA.g (lv_e0 hx)) e (Nat.le_refl _)] at tc
  rw [e2] at tm
  exact lf_same hk hX hI tc fun μ1 n s hx => tm μ1 n s (lx6 hx hH)
theorem op_125 (hS : SH y X M) {x : Int32} : OpI G y X M cdB 1 125 [.int x] 248 [.int x] := by
  intro k μ n s hk hI
  obtain ⟨hE, hF, hDL, hM, hMA, hX⟩ := hS
  have hI' := hI
  obtain ⟨⟨a, e, f, i, b, p, hJ, hA, hd⟩, ⟨e0, c, hH⟩, -⟩ := hI'
  have hO := hA.ct hJ
  have hc := hJ.2.1
  unfold Jc at hc
  have hN := hJ.1
  have d6 := hJ.d6
  have tc := t125 (G := G) (μ := μ) (C := rd μ (X + 1)) (n := n) (s := s) hE (show p ≤ 6 by omega) (hA.c5 hJ) (x := x)
  have tm := fun (μ1 : qMu) (n s : Nat) h6 => t248 (G := G) (μ := μ1) (n := n) (s := s) hM hMA hJ hH.1.2.2.2 h6 (x := x)
  have g0 : rd μ (X + 1) 0 = μ (M + 1) 0 := hA.g (lv_8 (by omega))
  have g1 : rd μ (X + 1) 1 = μ (M + 1) 1 := hA.g (lv_8 (by omega))
  have g2 : rd μ (X + 1) 2 = μ (M + 1) 2 := hA.g (lv_8 (by omega))
  have g3 : rd μ (X + 1) 3 = μ (M + 1) 3 := hA.g (lv_8 (by omega))
  have g4 : rd μ (X + 1) 4 = μ (M + 1) 4 := hA.g (lv_8 (by omega))
  have g5 : rd μ (X + 1) 5 = μ (M + 1) 5 := hA.g (lv_8 (by omega))
  have g6 := hA.d6 hJ
  have g7 : rd μ (X + 1) 7 = μ (M + 1) 7 := hA.g (lv_8 (by omega))
  try rw [g0] at tc
  try rw [g1] at tc
  try rw [g2] at tc
  try rw [g3] at tc
  try rw [g4] at tc
  try rw [g5] at tc
  by_cases d1 : inR x (μ (M + 1) 5)
  case neg => exact lf_exc hk hX hI (tc.trans (if_neg d1)) (fun μ1 n s hx => (tm μ1 n s (lx6 hx hH)).trans (if_pos d1)) (by decide)
  replace tc := tc.trans (if_pos d1)
  replace tm := fun μ1 n s h6 => (tm μ1 n s h6).trans (if_neg (not_not_intro d1))
  obtain ⟨x, hx, rfl⟩ := inR_n (c := p) (by omega) hJ.c5 d1
  have zx : (nI x).toNatClampNeg = x := nI_clamp (by omega)
  try rw [zx] at tc
  try simp only [zx] at tm
  rw [hA.g (k := 185 + x) (by unfold Live; omega)] at tc
  exact lf_same hk hX hI tc fun μ1 n s hx => tm μ1 n s (lx6 hx hH)
theorem op_91 (hS : SH y X M) {x : Int32} : OpI G y X M cdB 1 91 [.int x] 202 [.int x] := by
  intro k μ n s hk hI
  obtain ⟨hE, hF, hDL, hM, hMA, hX⟩ := hS
  have hI' := hI
  obtain ⟨⟨a, e, f, i, b, p, hJ, hA, hd⟩, ⟨e0, c, hH⟩, -⟩ := hI'
  have hO := hA.ct hJ
  have hc := hJ.2.1
  unfold Jc at hc
  have hN := hJ.1
  have d6 := hJ.d6
  have tc := t91 (G := G) (μ := μ) (n := n) (s := s) hE hO.1 (x := x)
  have tm := fun (μ1 : qMu) (n s : Nat) (h6 : (μ1 M 6).toInt32 = nI c) => t202 (G := G) (μ := μ1) (D := μ (M + 1)) (n := n) (s := s) hM (c := f) (x := x) (by omega) hJ.c2
  have g0 : rd μ (X + 1) 0 = μ (M + 1) 0 := hA.g (lv_8 (by omega))
  have g1 : rd μ (X + 1) 1 = μ (M + 1) 1 := hA.g (lv_8 (by omega))
  have g2 : rd μ (X + 1) 2 = μ (M + 1) 2 := hA.g (lv_8 (by omega))
  have g3 : rd μ (X + 1) 3 = μ (M + 1) 3 := hA.g (lv_8 (by omega))
  have g4 : rd μ (X + 1) 4 = μ (M + 1) 4 := hA.g (lv_8 (by omega))
  have g5 : rd μ (X + 1) 5 = μ (M + 1) 5 := hA.g (lv_8 (by omega))
  have g6 := hA.d6 hJ
  have g7 : rd μ (X + 1) 7 = μ (M + 1) 7 := hA.g (lv_8 (by omega))
  try rw [g0] at tc
  try rw [g1] at tc
  try rw [g2] at tc
  try rw [g3] at tc
  try rw [g4] at tc
  try rw [g5] at tc
  have er : (0 ≤ x.toInt64 ∧ x.toInt64 ≤ μ (M + 1) 2 - 1) = inR x (μ (M + 1) 2) := inM_R (show f ≤ 400 by omega) hJ.c2
  simp only [er] at tm
  by_cases d2 : inR x (μ (M + 1) 2)
  case neg => exact lf_exc hk hX hI (tc.trans (if_neg d2)) (fun μ1 n s hx => (tm μ1 n s (lx6 hx hH)).trans (if_neg d2)) (by decide)
  replace tc := tc.trans (if_pos d2)
  replace tm := fun μ1 n s h6 => (tm μ1 n s h6).trans (if_pos d2)
  obtain ⟨x, hx, rfl⟩ := inR_n (c := f) (by omega) hJ.c2 d2
  have zx : (nI x).toNatClampNeg = x := nI_clamp (by omega)
  try rw [zx] at tc
  try simp only [zx] at tm
  rw [need_eq hJ hA hx] at tc
  exact lf_same hk hX hI tc fun μ1 n s hx => tm μ1 n s (lx6 hx hH)
theorem op_77 (hS : SH y X M) {x z : Int32} : OpI G y X M cd2 1 77 [.int x, .int z] 190 [.int x, .int z] := by
  intro k μ n s hk hI
  obtain ⟨hE, hF, hDL, hM, hMA, hX⟩ := hS
  have hI' := hI
  obtain ⟨⟨a, e, f, i, b, p, hJ, hA, hd⟩, ⟨e0, c, hH⟩, -⟩ := hI'
  have hO := hA.ct hJ
  have hc := hJ.2.1
  unfold Jc at hc
  have hN := hJ.1
  have d6 := hJ.d6
  have tc := t77 (G := G) (μ := μ) (n := n) (s := s) hE hO.1 (x := x) (z := z)
  have tm := fun (μ1 : qMu) (n s : Nat) h6 => t190 (G := G) (μ := μ1) (n := n) (s := s) hM hMA hJ hH.1.2.2.2 h6 (x := x) (z := z)
  have g0 : rd μ (X + 1) 0 = μ (M + 1) 0 := hA.g (lv_8 (by omega))
  have g1 : rd μ (X + 1) 1 = μ (M + 1) 1 := hA.g (lv_8 (by omega))
  have g2 : rd μ (X + 1) 2 = μ (M + 1) 2 := hA.g (lv_8 (by omega))
  have g3 : rd μ (X + 1) 3 = μ (M + 1) 3 := hA.g (lv_8 (by omega))
  have g4 : rd μ (X + 1) 4 = μ (M + 1) 4 := hA.g (lv_8 (by omega))
  have g5 : rd μ (X + 1) 5 = μ (M + 1) 5 := hA.g (lv_8 (by omega))
  have g6 := hA.d6 hJ
  have g7 : rd μ (X + 1) 7 = μ (M + 1) 7 := hA.g (lv_8 (by omega))
  try rw [g0] at tc
  try rw [g1] at tc
  try rw [g2] at tc
  try rw [g3] at tc
  try rw [g4] at tc
  try rw [g5] at tc
  by_cases d1 : inR x (μ (M + 1) 1)
  case neg => exact lf_exc hk hX hI (tc.trans (if_pos d1)) (fun μ1 n s hx => (tm μ1 n s (lx6 hx hH)).trans (if_pos d1)) (by decide)
  replace tc := tc.trans (if_neg (not_not_intro d1))
  replace tm := fun μ1 n s h6 => (tm μ1 n s h6).trans (if_neg (not_not_intro d1))
  obtain ⟨x, hx, rfl⟩ := inR_n (c := e) (by omega) hJ.c1 d1
  have zx : (nI x).toNatClampNeg = x := nI_clamp (by omega)
  try rw [zx] at tc
  try simp only [zx] at tm
  by_cases dz : 0 ≤ z ∧ z ≤ nI 6
  case neg =>
    refine lf_exc hk hX hI (E := 101) (tc.trans ?_) (fun μ1 n s hx => (tm μ1 n s (lx6 hx hH)).trans (if_pos dz)) (by decide)
    rw [if_neg (kd_ne (k := 6) (by decide) (by decide) dz), if_neg (kd_ne (k := 6) (by decide) (by decide) dz), if_neg (kd_ne (k := 6) (by decide) (by decide) dz), if_neg (kd_ne (k := 6) (by decide) (by decide) dz), if_neg (kd_ne (k := 6) (by decide) (by decide) dz), if_neg (kd_ne (k := 6) (by decide) (by decide) dz), if_neg (kd_ne (k := 6) (by decide) (by decide) dz)]
  replace tm := fun μ1 n s h6 => (tm μ1 n s h6).trans (if_neg (not_not_intro dz))
  obtain ⟨q, hq, rfl⟩ := kd_n (k := 6) (by decide) dz
  have hq : q = 0 ∨ q = 1 ∨ q = 2 ∨ q = 3 ∨ q = 4 ∨ q = 5 ∨ q = 6 := by omega
  rcases hq with rfl | rfl | rfl | rfl | rfl | rfl | rfl
  · replace tc := tc.trans (by rw [if_pos rfl])
    rw [hA.g (lv_e0 hx)] at tc
    refine lf_same hk hX hI tc fun μ1 n s hx => ?_
    have := tm μ1 n s (lx6 hx hH)
    rwa [if_pos (by decide)] at this
  · replace tc := tc.trans (by rw [if_neg (by decide), if_pos rfl])
    have hb := hJ.2.2 (13 + 6 * x + 1)
    rw [jB_E (by omega) (by decide)] at hb
    have hb2 : -2 ^ 31 ≤ (μ (M + 1) (13 + 6 * x + 1)).toInt ∧ (μ (M + 1) (13 + 6 * x + 1)).toInt < 2 ^ 31 := by
      simp only [Nat.reduceEqDiff, if_false, if_true, hx] at hb
      unfold IB at hb
      dsimp only at hb
      omega
    rw [hA.g (lv_e hx (by decide)), i64_32r hb2.1 hb2.2] at tc
    refine lf_same hk hX hI tc fun μ1 n s hx => ?_
    have := tm μ1 n s (lx6 hx hH)
    rwa [if_pos (by decide)] at this
  · replace tc := tc.trans (by rw [if_neg (by decide), if_neg (by decide), if_pos rfl])
    have hb := hJ.2.2 (13 + 6 * x + 2)
    rw [jB_E (by omega) (by decide)] at hb
    have hb2 : -2 ^ 31 ≤ (μ (M + 1) (13 + 6 * x + 2)).toInt ∧ (μ (M + 1) (13 + 6 * x + 2)).toInt < 2 ^ 31 := by
      simp only [Nat.reduceEqDiff, if_false, if_true, hx] at hb
      unfold IB at hb
      dsimp only at hb
      omega
    rw [hA.g (lv_e hx (by decide)), i64_32r hb2.1 hb2.2] at tc
    refine lf_same hk hX hI tc fun μ1 n s hx => ?_
    have := tm μ1 n s (lx6 hx hH)
    rwa [if_pos (by decide)] at this
  · replace tc := tc.trans (by rw [if_neg (by decide), if_neg (by decide), if_neg (by decide), if_pos rfl])
    have hb := hJ.2.2 (13 + 6 * x + 3)
    rw [jB_E (by omega) (by decide)] at hb
    have hb2 : -2 ^ 31 ≤ (μ (M + 1) (13 + 6 * x + 3)).toInt ∧ (μ (M + 1) (13 + 6 * x + 3)).toInt < 2 ^ 31 := by
      simp only [Nat.reduceEqDiff, if_false, if_true, hx] at hb
      unfold IB at hb
      dsimp only at hb
      omega
    rw [hA.g (lv_e hx (by decide)), i64_32r hb2.1 hb2.2] at tc
    refine lf_same hk hX hI tc fun μ1 n s hx => ?_
    have := tm μ1 n s (lx6 hx hH)
    rwa [if_pos (by decide)] at this
  · replace tc := tc.trans (by rw [if_neg (by decide), if_neg (by decide), if_neg (by decide), if_neg (by decide), if_pos rfl])
    have hb := hJ.2.2 (13 + 6 * x + 4)
    rw [jB_E (by omega) (by decide)] at hb
    have hb2 : -2 ^ 31 ≤ (μ (M + 1) (13 + 6 * x + 4)).toInt ∧ (μ (M + 1) (13 + 6 * x + 4)).toInt < 2 ^ 31 := by
      simp only [Nat.reduceEqDiff, if_false, if_true, hx] at hb
      unfold IB at hb
      dsimp only at hb
      omega
    rw [hA.g (lv_e hx (by decide)), i64_32r hb2.1 hb2.2] at tc
    refine lf_same hk hX hI tc fun μ1 n s hx => ?_
    have := tm μ1 n s (lx6 hx hH)
    rwa [if_pos (by decide)] at this
  · replace tc := tc.trans (by rw [if_neg (by decide), if_neg (by decide), if_neg (by decide), if_neg (by decide), if_neg (by decide), if_pos rfl])
    rw [hA.g (lv_e hx (by decide))] at tc
    refine lf_same hk hX hI tc fun μ1 n s hx => ?_
    have := tm μ1 n s (lx6 hx hH)
    rwa [if_pos (by decide)] at this
  · replace tc := tc.trans (by rw [if_neg (by decide), if_neg (by decide), if_neg (by decide), if_neg (by decide), if_neg (by decide), if_neg (by decide), if_pos rfl])
    have hq := ob_n hJ hx
    rw [hA.g (lv_e hx (by decide)), dep_eq hJ hA 10 _ 0 (by omega) (hq.imp id fun ⟨o, ho, q⟩ => ⟨o, by omega, q⟩)] at tc
    refine lf_same hk hX hI tc fun μ1 n s hx => ?_
    have := tm μ1 n s (lx6 hx hH)
    rwa [if_neg (by decide)] at this
theorem op_85 (hS : SH y X M) {x z : Int32} : OpI G y X M cd2 1 85 [.int x, .int z] 197 [.int x, .int z] := by
  intro k μ n s hk hI
  obtain ⟨hE, hF, hDL, hM, hMA, hX⟩ := hS
  have hI' := hI
  obtain ⟨⟨a, e, f, i, b, p, hJ, hA, hd⟩, ⟨e0, c, hH⟩, -⟩ := hI'
  have hO := hA.ct hJ
  have hc := hJ.2.1
  unfold Jc at hc
  have hN := hJ.1
  have d6 := hJ.d6
  have tc := t85 (G := G) (μ := μ) (n := n) (s := s) hE hO.1 (x := x) (z := z)
  have tm := fun (μ1 : qMu) (n s : Nat) (h6 : (μ1 M 6).toInt32 = nI c) => t197 (G := G) (μ := μ1) (D := μ (M + 1)) (n := n) (s := s) hM (c := f) (x := x) (z := z) (by omega) hJ.c2
  have g0 : rd μ (X + 1) 0 = μ (M + 1) 0 := hA.g (lv_8 (by omega))
  have g1 : rd μ (X + 1) 1 = μ (M + 1) 1 := hA.g (lv_8 (by omega))
  have g2 : rd μ (X + 1) 2 = μ (M + 1) 2 := hA.g (lv_8 (by omega))
  have g3 : rd μ (X + 1) 3 = μ (M + 1) 3 := hA.g (lv_8 (by omega))
  have g4 : rd μ (X + 1) 4 = μ (M + 1) 4 := hA.g (lv_8 (by omega))
  have g5 : rd μ (X + 1) 5 = μ (M + 1) 5 := hA.g (lv_8 (by omega))
  have g6 := hA.d6 hJ
  have g7 : rd μ (X + 1) 7 = μ (M + 1) 7 := hA.g (lv_8 (by omega))
  try rw [g0] at tc
  try rw [g1] at tc
  try rw [g2] at tc
  try rw [g3] at tc
  try rw [g4] at tc
  try rw [g5] at tc
  simp only [inM_R (show f ≤ 400 by omega) hJ.c2, show inZ z 5 = (0 ≤ z ∧ z ≤ nI 5) from inZ_n (k := 5) (by decide)] at tm
  by_cases d2 : inR x (μ (M + 1) 2)
  case neg => exact lf_exc hk hX hI (tc.trans (if_pos d2)) (fun μ1 n s hx => (tm μ1 n s (lx6 hx hH)).trans (if_pos d2)) (by decide)
  replace tc := tc.trans (if_neg (not_not_intro d2))
  replace tm := fun μ1 n s h6 => (tm μ1 n s h6).trans (if_neg (not_not_intro d2))
  obtain ⟨x, hx, rfl⟩ := inR_n (c := f) (by omega) hJ.c2 d2
  have zx : (nI x).toNatClampNeg = x := nI_clamp (by omega)
  try rw [zx] at tc
  try simp only [zx] at tm
  by_cases dz : 0 ≤ z ∧ z ≤ nI 5
  case neg =>
    refine lf_exc hk hX hI (E := 101) (tc.trans ?_) (fun μ1 n s hx => (tm μ1 n s (lx6 hx hH)).trans (if_pos dz)) (by decide)
    rw [if_neg (kd_ne (k := 5) (by decide) (by decide) dz), if_neg (kd_ne (k := 5) (by decide) (by decide) dz), if_neg (kd_ne (k := 5) (by decide) (by decide) dz), if_neg (kd_ne (k := 5) (by decide) (by decide) dz), if_neg (kd_ne (k := 5) (by decide) (by decide) dz), if_neg (kd_ne (k := 5) (by decide) (by decide) dz)]
  replace tm := fun μ1 n s h6 => (tm μ1 n s h6).trans (if_neg (not_not_intro dz))
  obtain ⟨q, hq, rfl⟩ := kd_n (k := 5) (by decide) dz
  have hq : q = 0 ∨ q = 1 ∨ q = 2 ∨ q = 3 ∨ q = 4 ∨ q = 5 := by omega
  rcases hq with rfl | rfl | rfl | rfl | rfl | rfl
  · replace tc := tc.trans (by rw [if_pos rfl])
    rw [hA.g (lv_f0 hx)] at tc
    exact lf_same hk hX hI tc fun μ1 n s hx => tm μ1 n s (lx6 hx hH)
  · replace tc := tc.trans (by rw [if_neg (by decide), if_pos rfl])
    have hb := hJ.2.2 (73 + 6 * x + 1)
    rw [jB_F (by omega) (by decide)] at hb
    have hb2 : -2 ^ 31 ≤ (μ (M + 1) (73 + 6 * x + 1)).toInt ∧ (μ (M + 1) (73 + 6 * x + 1)).toInt < 2 ^ 31 := by
      simp only [Nat.reduceEqDiff, if_false, if_true, hx] at hb
      unfold IB at hb
      dsimp only at hb
      omega
    rw [hA.g (lv_f hx (by decide)), i64_32r hb2.1 hb2.2] at tc
    exact lf_same hk hX hI tc fun μ1 n s hx => tm μ1 n s (lx6 hx hH)
  · replace tc := tc.trans (by rw [if_neg (by decide), if_neg (by decide), if_pos rfl])
    have hb := hJ.2.2 (73 + 6 * x + 2)
    rw [jB_F (by omega) (by decide)] at hb
    have hb2 : -2 ^ 31 ≤ (μ (M + 1) (73 + 6 * x + 2)).toInt ∧ (μ (M + 1) (73 + 6 * x + 2)).toInt < 2 ^ 31 := by
      simp only [Nat.reduceEqDiff, if_false, if_true, hx] at hb
      unfold IB at hb
      dsimp only at hb
      omega
    rw [hA.g (lv_f hx (by decide)), i64_32r hb2.1 hb2.2] at tc
    exact lf_same hk hX hI tc fun μ1 n s hx => tm μ1 n s (lx6 hx hH)
  · replace tc := tc.trans (by rw [if_neg (by decide), if_neg (by decide), if_neg (by decide), if_pos rfl])
    have hb := hJ.2.2 (73 + 6 * x + 3)
    rw [jB_F (by omega) (by decide)] at hb
    have hb2 : -2 ^ 31 ≤ (μ (M + 1) (73 + 6 * x + 3)).toInt ∧ (μ (M + 1) (73 + 6 * x + 3)).toInt < 2 ^ 31 := by
      simp only [Nat.reduceEqDiff, if_false, if_true, hx] at hb
      unfold IB at hb
      dsimp only at hb
      omega
    rw [hA.g (lv_f hx (by decide)), i64_32r hb2.1 hb2.2] at tc
    exact lf_same hk hX hI tc fun μ1 n s hx => tm μ1 n s (lx6 hx hH)
  · replace tc := tc.trans (by rw [if_neg (by decide), if_neg (by decide), if_neg (by decide), if_neg (by decide), if_pos rfl])
    have hb := hJ.2.2 (73 + 6 * x + 4)
    rw [jB_F (by omega) (by decide)] at hb
    have hb2 : -2 ^ 31 ≤ (μ (M + 1) (73 + 6 * x + 4)).toInt ∧ (μ (M + 1) (73 + 6 * x + 4)).toInt < 2 ^ 31 := by
      simp only [Nat.reduceEqDiff, if_false, if_true, hx] at hb
      unfold IB at hb
      dsimp only at hb
      omega
    rw [hA.g (lv_f hx (by decide)), i64_32r hb2.1 hb2.2] at tc
    exact lf_same hk hX hI tc fun μ1 n s hx => tm μ1 n s (lx6 hx hH)
  · replace tc := tc.trans (by rw [if_neg (by decide), if_neg (by decide), if_neg (by decide), if_neg (by decide), if_neg (by decide), if_pos rfl])
    have hb := hJ.2.2 (73 + 6 * x + 5)
    rw [jB_F (by omega) (by decide)] at hb
    have hb2 : -2 ^ 31 ≤ (μ (M + 1) (73 + 6 * x + 5)).toInt ∧ (μ (M + 1) (73 + 6 * x + 5)).toInt < 2 ^ 31 := by
      simp only [Nat.reduceEqDiff, if_false, if_true, hx] at hb
      unfold IB at hb
      dsimp only at hb
      omega
    rw [hA.g (lv_f hx (by decide)), i64_32r hb2.1 hb2.2] at tc
    exact lf_same hk hX hI tc fun μ1 n s hx => tm μ1 n s (lx6 hx hH)
theorem op_87 (hS : SH y X M) {x z : Int32} : OpI G y X M cd2 0 87 [.int x, .int z] 199 [.int x, .int z] := by
  intro k μ n s hk hI
  obtain ⟨hE, hF, hDL, hM, hMA, hX⟩ := hS
  have hI' := hI
  obtain ⟨⟨a, e, f, i, b, p, hJ, hA, hd⟩, ⟨e0, c, hH⟩, -⟩ := hI'
  have hO := hA.ct hJ
  have hc := hJ.2.1
  unfold Jc at hc
  have hN := hJ.1
  have d6 := hJ.d6
  have tc := t87 (G := G) (μ := μ) (n := n) (s := s) hE hO.1 (x := x) (z := z)
  have tm := fun (μ1 : qMu) (n s : Nat) (h6 : (μ1 M 6).toInt32 = nI c) => t199 (G := G) (μ := μ1) (D := μ (M + 1)) (n := n) (s := s) hM (c := i) (x := x) (z := z) (by omega) hJ.c3
  have g0 : rd μ (X + 1) 0 = μ (M + 1) 0 := hA.g (lv_8 (by omega))
  have g1 : rd μ (X + 1) 1 = μ (M + 1) 1 := hA.g (lv_8 (by omega))
  have g2 : rd μ (X + 1) 2 = μ (M + 1) 2 := hA.g (lv_8 (by omega))
  have g3 : rd μ (X + 1) 3 = μ (M + 1) 3 := hA.g (lv_8 (by omega))
  have g4 : rd μ (X + 1) 4 = μ (M + 1) 4 := hA.g (lv_8 (by omega))
  have g5 : rd μ (X + 1) 5 = μ (M + 1) 5 := hA.g (lv_8 (by omega))
  have g6 := hA.d6 hJ
  have g7 : rd μ (X + 1) 7 = μ (M + 1) 7 := hA.g (lv_8 (by omega))
  try rw [g0] at tc
  try rw [g1] at tc
  try rw [g2] at tc
  try rw [g3] at tc
  try rw [g4] at tc
  try rw [g5] at tc
  simp only [inM_R (show i ≤ 400 by omega) hJ.c3, show inZ z 3 = (0 ≤ z ∧ z ≤ nI 3) from inZ_n (k := 3) (by decide)] at tm
  by_cases d2 : inR x (μ (M + 1) 3)
  case neg => exact lf_exc hk hX hI (tc.trans (if_pos d2)) (fun μ1 n s hx => (tm μ1 n s (lx6 hx hH)).trans (if_pos d2)) (by decide)
  replace tc := tc.trans (if_neg (not_not_intro d2))
  replace tm := fun μ1 n s h6 => (tm μ1 n s h6).trans (if_neg (not_not_intro d2))
  obtain ⟨x, hx, rfl⟩ := inR_n (c := i) (by omega) hJ.c3 d2
  have zx : (nI x).toNatClampNeg = x := nI_clamp (by omega)
  try rw [zx] at tc
  try simp only [zx] at tm
  by_cases dz : 0 ≤ z ∧ z ≤ nI 3
  case neg =>
    refine lf_exc hk hX hI (E := 101) (tc.trans ?_) (fun μ1 n s hx => (tm μ1 n s (lx6 hx hH)).trans (if_pos dz)) (by decide)
    rw [if_neg (kd_ne (k := 3) (by decide) (by decide) dz), if_neg (kd_ne (k := 3) (by decide) (by decide) dz), if_neg (kd_ne (k := 3) (by decide) (by decide) dz), if_neg (kd_ne (k := 3) (by decide) (by decide) dz)]
  replace tm := fun μ1 n s h6 => (tm μ1 n s h6).trans (if_neg (not_not_intro dz))
  obtain ⟨q, hq, rfl⟩ := kd_n (k := 3) (by decide) dz
  have hq : q = 0 ∨ q = 1 ∨ q = 2 ∨ q = 3 := by omega
  rcases hq with rfl | rfl | rfl | rfl
  · replace tc := tc.trans (by rw [if_pos rfl])
    rw [hA.g (k := 109 + 4 * x) (by unfold Live; omega)] at tc
    exact lf_same hk hX hI tc fun μ1 n s hx => tm μ1 n s (lx6 hx hH)
  · replace tc := tc.trans (by rw [if_neg (by decide), if_pos rfl])
    rw [hA.g (lv_i hx (by decide))] at tc
    exact lf_same hk hX hI tc fun μ1 n s hx => tm μ1 n s (lx6 hx hH)
  · replace tc := tc.trans (by rw [if_neg (by decide), if_neg (by decide), if_pos rfl])
    rw [hA.g (lv_i hx (by decide))] at tc
    exact lf_same hk hX hI tc fun μ1 n s hx => tm μ1 n s (lx6 hx hH)
  · replace tc := tc.trans (by rw [if_neg (by decide), if_neg (by decide), if_neg (by decide), if_pos rfl])
    rw [hA.g (lv_i hx (by decide))] at tc
    exact lf_same hk hX hI tc fun μ1 n s hx => tm μ1 n s (lx6 hx hH)
theorem op_88 (hS : SH y X M) {x z : Int32} : OpI G y X M cd2 0 88 [.int x, .int z] 200 [.int x, .int z] := by
  intro k μ n s hk hI
  obtain ⟨hE, hF, hDL, hM, hMA, hX⟩ := hS
  have hI' := hI
  obtain ⟨⟨a, e, f, i, b, p, hJ, hA, hd⟩, ⟨e0, c, hH⟩, -⟩ := hI'
  have hO := hA.ct hJ
  have hc := hJ.2.1
  unfold Jc at hc
  have hN := hJ.1
  have d6 := hJ.d6
  have tc := t88 (G := G) (μ := μ) (n := n) (s := s) hE hO.1 (x := x) (z := z)
  have tm := fun (μ1 : qMu) (n s : Nat) (h6 : (μ1 M 6).toInt32 = nI c) => t200 (G := G) (μ := μ1) (D := μ (M + 1)) (n := n) (s := s) hM (c := b) (x := x) (z := z) (by omega) hJ.c4
  have g0 : rd μ (X + 1) 0 = μ (M + 1) 0 := hA.g (lv_8 (by omega))
  have g1 : rd μ (X + 1) 1 = μ (M + 1) 1 := hA.g (lv_8 (by omega))
  have g2 : rd μ (X + 1) 2 = μ (M + 1) 2 := hA.g (lv_8 (by omega))
  have g3 : rd μ (X + 1) 3 = μ (M + 1) 3 := hA.g (lv_8 (by omega))
  have g4 : rd μ (X + 1) 4 = μ (M + 1) 4 := hA.g (lv_8 (by omega))
  have g5 : rd μ (X + 1) 5 = μ (M + 1) 5 := hA.g (lv_8 (by omega))
  have g6 := hA.d6 hJ
  have g7 : rd μ (X + 1) 7 = μ (M + 1) 7 := hA.g (lv_8 (by omega))
  try rw [g0] at tc
  try rw [g1] at tc
  try rw [g2] at tc
  try rw [g3] at tc
  try rw [g4] at tc
  try rw [g5] at tc
  simp only [inM_R (show b ≤ 400 by omega) hJ.c4, show inZ z 4 = (0 ≤ z ∧ z ≤ nI 4) from inZ_n (k := 4) (by decide)] at tm
  by_cases d2 : inR x (μ (M + 1) 4)
  case neg => exact lf_exc hk hX hI (tc.trans (if_pos d2)) (fun μ1 n s hx => (tm μ1 n s (lx6 hx hH)).trans (if_pos d2)) (by decide)
  replace tc := tc.trans (if_neg (not_not_intro d2))
  replace tm := fun μ1 n s h6 => (tm μ1 n s h6).trans (if_neg (not_not_intro d2))
  obtain ⟨x, hx, rfl⟩ := inR_n (c := b) (by omega) hJ.c4 d2
  have zx : (nI x).toNatClampNeg = x := nI_clamp (by omega)
  try rw [zx] at tc
  try simp only [zx] at tm
  by_cases dz : 0 ≤ z ∧ z ≤ nI 4
  case neg =>
    refine lf_exc hk hX hI (E := 101) (tc.trans ?_) (fun μ1 n s hx => (tm μ1 n s (lx6 hx hH)).trans (if_pos dz)) (by decide)
    rw [if_neg (kd_ne (k := 4) (by decide) (by decide) dz), if_neg (kd_ne (k := 4) (by decide) (by decide) dz), if_neg (kd_ne (k := 4) (by decide) (by decide) dz), if_neg (kd_ne (k := 4) (by decide) (by decide) dz), if_neg (kd_ne (k := 4) (by decide) (by decide) dz)]
  replace tm := fun μ1 n s h6 => (tm μ1 n s h6).trans (if_neg (not_not_intro dz))
  obtain ⟨q, hq, rfl⟩ := kd_n (k := 4) (by decide) dz
  have hq : q = 0 ∨ q = 1 ∨ q = 2 ∨ q = 3 ∨ q = 4 := by omega
  rcases hq with rfl | rfl | rfl | rfl | rfl
  · replace tc := tc.trans (by rw [if_pos rfl])
    rw [hA.g (lv_b0 hx)] at tc
    exact lf_same hk hX hI tc fun μ1 n s hx => tm μ1 n s (lx6 hx hH)
  · replace tc := tc.trans (by rw [if_neg (by decide), if_pos rfl])
    rw [hA.g (lv_b hx (by decide))] at tc
    exact lf_same hk hX hI tc fun μ1 n s hx => tm μ1 n s (lx6 hx hH)
  · replace tc := tc.trans (by rw [if_neg (by decide), if_neg (by decide), if_pos rfl])
    rw [hA.g (lv_b hx (by decide))] at tc
    exact lf_same hk hX hI tc fun μ1 n s hx => tm μ1 n s (lx6 hx hH)
  · replace tc := tc.trans (by rw [if_neg (by decide), if_neg (by decide), if_neg (by decide), if_pos rfl])
    rw [hA.g (lv_b hx (by decide))] at tc
    exact lf_same hk hX hI tc fun μ1 n s hx => tm μ1 n s (lx6 hx hH)
  · replace tc := tc.trans (by rw [if_neg (by decide), if_neg (by decide), if_neg (by decide), if_neg (by decide), if_pos rfl])
    rw [hA.g (lv_b hx (by decide))] at tc
    exact lf_same hk hX hI tc fun μ1 n s hx => tm μ1 n s (lx6 hx hH)
theorem op_127 (hS : SH y X M) {x w : Int32} : OpI G y X M cdA 1 127 [.int x, .int w] 253 [.int x, .int w] := by
  intro k μ n s hk hI
  obtain ⟨hE, hF, hDL, hM, hMA, hX⟩ := hS
  have hI' := hI
  obtain ⟨⟨a, e, f, i, b, p, hJ, hA, hd⟩, ⟨e0, c, hH⟩, -⟩ := hI'
  have hO := hA.ct hJ
  have hc := hJ.2.1
  unfold Jc at hc
  have hN := hJ.1
  have d6 := hJ.d6
  obtain ⟨l, l1, l2, l3, l4, l5⟩ := hA.2
  have tc := t127 (G := G) (μ := μ) (C := rd μ (X + 1)) (n := n) (s := s) hE (l := l % 40) (q := min 40 l) (by omega) l4 (by omega) l3 (x := x) (w := w)
  have tm := fun (μ1 : qMu) (n s : Nat) h6 => t253 (G := G) (μ := μ1) (n := n) (s := s) hM hMA hJ hH.1.2.2.2 h6 (x := x) (w := w)
  have g0 : rd μ (X + 1) 0 = μ (M + 1) 0 := hA.g (lv_8 (by omega))
  have g1 : rd μ (X + 1) 1 = μ (M + 1) 1 := hA.g (lv_8 (by omega))
  have g2 : rd μ (X + 1) 2 = μ (M + 1) 2 := hA.g (lv_8 (by omega))
  have g3 : rd μ (X + 1) 3 = μ (M + 1) 3 := hA.g (lv_8 (by omega))
  have g4 : rd μ (X + 1) 4 = μ (M + 1) 4 := hA.g (lv_8 (by omega))
  have g5 : rd μ (X + 1) 5 = μ (M + 1) 5 := hA.g (lv_8 (by omega))
  have g6 := hA.d6 hJ
  have g7 : rd μ (X + 1) 7 = μ (M + 1) 7 := hA.g (lv_8 (by omega))
  try rw [g0] at tc
  try rw [g1] at tc
  try rw [g2] at tc
  try rw [g3] at tc
  try rw [g4] at tc
  try rw [g5] at tc
  by_cases d1 : 0 ≤ w ∧ w ≤ 4
  case neg => exact lf_exc hk hX hI (tc.trans (if_pos d1)) (fun μ1 n s hx => (tm μ1 n s (lx6 hx hH)).trans (if_pos d1)) (by decide)
  replace tc := tc.trans (if_neg (not_not_intro d1))
  replace tm := fun μ1 n s h6 => (tm μ1 n s h6).trans (if_neg (not_not_intro d1))
  have e8 : (μ (M + 1) 8).toInt.toNat = l := by rw [l2, Int32.toInt_toInt64, nI_32 (by omega)]; omega
  rw [e8] at tm
  unfold inR at tc
  rw [l3] at tc
  by_cases d2 : 0 ≤ x ∧ x < nI (min 40 l)
  case neg =>
    refine lf_same hk hX hI (tc.trans (if_pos d2)) fun μ1 n s hx => ?_
    have := tm μ1 n s (lx6 hx hH)
    rwa [if_pos d2] at this
  replace tc := tc.trans (if_neg (not_not_intro d2))
  have hx := i32_lt (by omega) d2.2 d2.1
  obtain ⟨q, hq, rfl⟩ := kd_n (k := 4) (by decide) d1
  rw [show (nI q).toNatClampNeg = q from nI_clamp (by omega)] at tc tm
  generalize x.toNatClampNeg = x' at *
  have := l5 ((l - 1 - x') % 40) (by omega) q (by omega)
  rw [show ((l - 1 - x') % 40 + 1) % 40 = (l % 40 + 40 - x') % 40 by omega, Nat.add_assoc] at this
  rw [this] at tc
  refine lf_same hk hX hI tc fun μ1 n s hx => ?_
  have := tm μ1 n s (lx6 hx hH)
  rwa [if_neg (not_not_intro d2)] at this
end OPW
