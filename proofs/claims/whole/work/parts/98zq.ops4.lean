/-! ===== A call of the class beside the model's, 4 ===== -/
section OPV
variable {G : qG} {y : Nat → Option qSh} {μ ν : qMu} {X M k n s N a e f i b p e0 c : Nat} {C D : Row} {cd : Nat → Int64} {kd cm mm : Nat} {ca ma : List Value} {C' D' : Row} {v v' : Value} {E : Nat}
theorem lf_act8 (hk : k < 900) (hX : X + 465 ≤ M) (hI : Iv G y X M k μ) (hH : HiR μ X M k e0 c) (hP : PR (k + 1) C' D') (tc : qR PG G (qEntry PG cm (.ref X :: ca) (MK y (wr μ (X + 1) (rd μ (X + 1))) n s)) = some (.inl (some v), MK y (wr (hRem μ (X + 85) e0 c (rd μ (X + 1))) (X + 1) C') n s)) (tm : ∀ μ1 n s, (μ1 M 6).toInt32 = nI c → ∃ F, qR PG G (qEntry PG mm (.ref M :: ma) (MK y (stc μ1 (M + 1) (μ (M + 1))) n s)) = some (.inl (some v), MK y (stc (stc (MKp μ1 M (μ (M + 1)) c) (M + 8) F) (M + 1) D') n s)) (hv : vk v = kd := by rfl) : OpL G y X M cd kd cm ca mm ma k μ n s := by
  have he := hH.1.2.1
  have hi : ∀ a, M ≤ a → wr (hRem μ (X + 85) e0 c (rd μ (X + 1))) (X + 1) C' a = μ a := fun a ha => by
    rw [wr_out (by omega)]
    unfold hRem
    rw [stc_ne (by omega), wr_out (by omega)]
  rw [wr_rd] at tc
  refine Or.inr ⟨v, _, tc, fun a ha => hi a (by omega), hv, fun μ1 n s hx => ?_⟩
  obtain ⟨F, this⟩ := tm μ1 n s (by rw [hx.eqM, hi _ (Nat.le_refl _)]; exact hH.2.1)
  rw [hx.self1 (by rw [hi _ (by omega)]), stc_comm (show M + 8 ≠ M + 1 by omega)] at this
  refine ⟨_, ((hI.act (D' := D') hX hH (by omega) hP).lx hX (MKp_lx hx)).same (ν := stc (stc (MKp μ1 M (μ (M + 1)) c) (M + 1) D') (M + 8) F) hX (fun a h1 h2 => stc_ne (by omega)) (stc_ne (by omega)) (stc_ne (by omega)) (stc_ne (by omega)) (fun i hi => by rw [stc_ne (by omega)]), fun a ha => (stc_ne (by omega)).trans (MKp_fx a ha), this, ?_⟩
  rw [stc_ne (by omega), MKp_7]
/-- days -/
theorem AL.pas (hJ : J N a e f i b p D) (h : AL a e f i b C D) (hd : (D 6).toInt < 22000) (hN : N + 23 < 2 ^ 20) : AL a e f i b (kPayFs (kDay C e f i b) f) (pPas D e f i b) := by
  have hc := hJ.2.1
  unfold Jc at hc
  unfold pPas
  exact (h.day hJ hd (by omega)).fns (hJ.beg hd (by omega)) f (Nat.le_refl _) (by omega)
theorem AL.days (hJ : J N a e f i b p D) (h : AL a e f i b C D) : ∀ q : Nat, (D 6).toInt + q ≤ 22000 → N + 23 * q < 2 ^ 20 → AL a e f i b (kDays C e f i b q) (pDays D e f i b q)
  | 0, _, _ => h
  | q + 1, hd, hN => by
    have ih := AL.days hJ h q (by omega) (by omega)
    have j := hJ.days q (by omega) (by omega)
    rw [kDays, pDays]
    exact ih.pas j.1 (by rw [j.2]; omega) (by omega)
/-- undo -/
noncomputable def uC (μ : qMu) (X e c : Nat) : qMu := wr (hBak μ (X + 85) e c) (X + 1) (kCpy (rd μ (X + 1)) (rd μ (X + 85 + 2 + 41 * ((e + 7) % 8))))
noncomputable def uM (μ : qMu) (X M e c : Nat) (D : Row) : qMu := stc (stc (uC μ X e c) M (sv (sv (uC μ X e c M) 7 0) 6 (nI (c - 1)).toInt64)) (M + 1) (mCp (uC μ X e c (M + 4)) (c - 1) D 0 391)
theorem uC_hi (hXM : X + 465 ≤ M) {x : Nat} (hx : M ≤ x) : uC μ X e c x = μ x := by
  unfold uC
  rw [wr_out (by omega)]
  unfold hBak
  rw [stc_ne (by omega)]
theorem uC_lo {x : Nat} (h : x < X + 1 ∨ X + 42 ≤ x) (h2 : x ≠ X + 85) : uC μ X e c x = μ x := by
  unfold uC
  rw [wr_out (by omega)]
  unfold hBak
  rw [stc_ne (by omega)]
theorem uM_lo (hXM : X + 465 ≤ M) {x : Nat} (hx : x < M) {D : Row} : uM μ X M e c D x = uC μ X e c x := by
  unfold uM
  rw [stc_ne (by omega), stc_ne (by omega)]
theorem uM_hi (hXM : X + 465 ≤ M) {x : Nat} (hx : M + 1 < x) {D : Row} : uM μ X M e c D x = μ x := by
  unfold uM
  rw [stc_ne (by omega), stc_ne (by omega), uC_hi hXM (by omega)]
theorem uM_M (hXM : X + 465 ≤ M) {j : Nat} {D : Row} : uM μ X M e c D M j = if j = 6 then (nI (c - 1)).toInt64 else if j = 7 then 0 else μ M j := by
  unfold uM
  rw [stc_ne (by omega), stc_eq, sv_get, sv_get, uC_hi hXM (Nat.le_refl _)]
theorem uM_lx {μ1 : qMu} {D : Row} (h : Lx M (uC μ X e c) μ1) : Lx M (uM μ X M e c D) (stc (stc μ1 M (sv (sv (μ1 M) 7 0) 6 (nI (c - 1)).toInt64)) (M + 1) (mCp (μ1 (M + 4)) (c - 1) D 0 391)) := fun a h1 h2 => by
  unfold uM
  by_cases q1 : a = M + 1
  · rw [q1, stc_eq, stc_eq, h (M + 4) (by omega) (by omega)]
  rw [stc_ne q1, stc_ne q1]
  by_cases q2 : a = M
  · rw [q2, stc_eq, stc_eq, h.eqM]
  rw [stc_ne q2, stc_ne q2]
  exact h a h1 h2
theorem Iv.undo (h : Iv G y X M k μ) (hXM : X + 465 ≤ M) (hH : HiR μ X M k e0 c) (hc : 0 < c) (hk : k + 1 ≤ 1000) : Iv G y X M (k + 1) (uM μ X M e0 c (μ (M + 1))) := by
  obtain ⟨h0, -, ⟨L, st, P, bg, t1, t2, t3, t4, t5, t6, t7, t8⟩, h5⟩ := h
  obtain ⟨⟨s1, s2, s3, s4⟩, q2, q3⟩ := hH
  have erd : ∀ b, b + 41 ≤ M → rd (uM μ X M e0 c (μ (M + 1))) b = rd (uC μ X e0 c) b := fun b hb => by
    funext i
    have := bkInv_lt i
    show uM μ X M e0 c (μ (M + 1)) (b + (bkInv i).1) (bkInv i).2 = _
    rw [uM_lo hXM (by omega)]
    rfl
  have low : ∀ x, x < X + 85 → (x < X + 1 ∨ X + 42 ≤ x) → uM μ X M e0 c (μ (M + 1)) x = μ x := fun x h1 h2 => by
    rw [uM_lo hXM (by omega), uC_lo h2 (by omega)]
  have e85 : uM μ X M e0 c (μ (M + 1)) (X + 85) = sv (sv (μ (X + 85)) 2 (nI ((e0 + 7) % 8)).toInt64) 1 (nI (c - 1)).toInt64 := by
    rw [uM_lo hXM (by omega)]
    unfold uC
    rw [wr_out (by omega)]
    unfold hBak
    rw [stc_eq]
  refine ⟨?_, ⟨(e0 + 7) % 8, c - 1, ?_, ?_, fun j hj => ?_⟩, ⟨L, st, P, bg, t1, ?_, ?_, ?_, ?_, ?_, ?_, ?_⟩, ?_⟩
  · rw [erd _ (by omega)]
    have e1 : uM μ X M e0 c (μ (M + 1)) (M + 1) = mCp (μ (M + 4)) (c - 1) (μ (M + 1)) 0 391 := by
      unfold uM
      rw [stc_eq, uC_hi hXM (by omega)]
    rw [e1]
    have q := ((q3 0 hc).mono (Nat.le_succ k) hk).cpy (Z := rd μ (X + 1))
    rw [show (e0 + 7 - 0) % 8 = (e0 + 7) % 8 by omega] at q
    refine (q.vx fun i hi => ?_).dx fun i hi => ?_
    · unfold uC
      exact rd_wr hi
    · rw [mCp_get, if_pos (by omega)]
      congr 1
  · unfold Hs
    rw [e85]
    simp only [sv_get]
    rw [if_neg (by decide), if_pos trivial, if_pos trivial, i64_32, i64_32]
    exact ⟨rfl, Nat.mod_lt _ (by decide), rfl, by omega⟩
  · rw [uM_M hXM, if_pos rfl, i64_32]
  · have hq : ((e0 + 7) % 8 + 7 - j) % 8 < 8 := Nat.mod_lt _ (by decide)
    rw [erd _ (by omega), uM_hi hXM (by omega)]
    unfold uC
    rw [rd_wr_out (by omega)]
    unfold hBak
    rw [rd_stc_out (by omega), show ((e0 + 7) % 8 + 7 - j) % 8 = (e0 + 7 - (j + 1)) % 8 by omega, show c - 1 - 1 - j = c - 1 - (j + 1) by omega]
    exact (q3 (j + 1) (by omega)).mono (Nat.le_succ k) hk
  · rw [low (X + 42) (by omega) (by omega)]; exact t2
  · rw [uM_M hXM, if_neg (by decide), if_neg (by decide)]; exact t3
  · rw [uM_hi hXM (by omega), low (X + 43) (by omega) (by omega)]; exact t4
  · rw [uM_M hXM, if_neg (by decide), if_neg (by decide)]; exact t5
  · rw [uM_M hXM, if_neg (by decide), if_neg (by decide)]; exact t6
  · rw [uM_M hXM, if_neg (by decide), if_neg (by decide)]; exact t7
  · rw [uM_M hXM, if_neg (by decide), if_neg (by decide)]; exact t8
  · exact h5.low fun x hx => low x (by omega) (by omega)
theorem PR.ctx (h : PR k C D) : CtX C := by
  obtain ⟨a, e, f, i, b, p, hJ, hA, -⟩ := h
  exact ⟨a, e, f, i, b, (hA.ct hJ).1⟩
/-- sums of a settlement -/
theorem set_row {D : Row} {g u x z : Nat} {v w : Int64} (h1 : u < 185) (hx : 185 ≤ x) (hz : 185 ≤ z) (hxz : x ≠ z) : sv (sv (sv D u (D u + w)) x (sv D u (D u + w) x + v)) z (sv (sv D u (D u + w)) x (sv D u (D u + w) x + v) z - v) g = sv (pShf D z x v) u (pShf D z x v u + w) g := by
  unfold pShf
  simp only [sv_get]
  rw [if_neg (show ¬ x = u by omega), if_neg (show ¬ z = u by omega), if_neg (show ¬ z = x by omega), if_neg (show ¬ u = x by omega), if_neg (show ¬ u = z by omega), if_neg hxz]
  by_cases h3 : g = z
  · rw [if_pos h3, if_neg (by omega), if_neg (by omega), if_pos h3]
  rw [if_neg h3]
  by_cases h4 : g = x
  · rw [if_pos h4, if_neg (by omega), if_pos h4]
  rw [if_neg h4]
  by_cases h5 : g = u
  · rw [if_pos h5, if_pos h5]
  · rw [if_neg h5, if_neg h5, if_neg h4, if_neg h3]
theorem set_row0 {D : Row} {g x z : Nat} {v : Int64} (hxz : x ≠ z) : sv (sv D x (D x + v)) z (sv D x (D x + v) z - v) g = pShf D z x v g := by
  unfold pShf
  simp only [sv_get]
  rw [if_neg (show ¬ z = x by omega), if_neg hxz]
  by_cases h3 : g = z
  · rw [if_pos h3, if_neg (by omega), if_pos h3]
  rw [if_neg h3]
  by_cases h4 : g = x
  · rw [if_pos h4, if_pos h4]
  · rw [if_neg h4, if_neg h4, if_neg h3]
theorem jB_Np {q : Nat} (hq : q < p) (hp : p ≤ 6) : jB N a e f i b p (185 + q) = FU := (jB_N (by omega)).trans (if_pos hq)
theorem op_60 (hS : SH y X M) : OpI G y X M cd0 1 60 [] 225 [] := by
  intro k μ n s hk hI
  obtain ⟨hE, hF, hDL, hM, hMA, hX⟩ := hS
  have hI' := hI
  obtain ⟨⟨a, e, f, i, b, p, hJ, hA, hd⟩, ⟨e0, c, hH⟩, -⟩ := hI'
  have hO := hA.ct hJ
  have hc := hJ.2.1
  unfold Jc at hc
  have hN := hJ.1
  have d6 := hJ.d6
  have tc := t60 (G := G) (μ := μ) (n := n) (s := s) hE hH.1 hO 
  have tm := fun (μ1 : qMu) (n s : Nat) h6 => t225 (G := G) (μ := μ1) (n := n) (s := s) hM hMA hJ hH.1.2.2.2 h6 
  have g0 : rd μ (X + 1) 0 = μ (M + 1) 0 := hA.g (lv_8 (by omega))
  have g1 : rd μ (X + 1) 1 = μ (M + 1) 1 := hA.g (lv_8 (by omega))
  have g2 : rd μ (X + 1) 2 = μ (M + 1) 2 := hA.g (lv_8 (by omega))
  have g3 : rd μ (X + 1) 3 = μ (M + 1) 3 := hA.g (lv_8 (by omega))
  have g4 : rd μ (X + 1) 4 = μ (M + 1) 4 := hA.g (lv_8 (by omega))
  have g5 : rd μ (X + 1) 5 = μ (M + 1) 5 := hA.g (lv_8 (by omega))
  have g6 := hA.d6 hJ
  have g7 : rd μ (X + 1) 7 = μ (M + 1) 7 := hA.g (lv_8 (by omega))
  try rw [g0] at tc
  try rw [g1] at tc
  try rw [g2] at tc
  try rw [g3] at tc
  try rw [g4] at tc
  try rw [g5] at tc
  have s1 := hA.fill hJ
  have j1 := hJ.all.mono (Nat.le_succ _) (by omega)
  have e6 : pAll (μ (M + 1)) e f 6 = μ (M + 1) 6 := pAll_o (by decide) (fun g => by omega) (fun g => by omega)
  rw [s1.g (lv_8 (by decide)), g7] at tc
  refine lf_act8 hk hX hI hH ⟨a, e, f, i, b, p, by rw [e6]; exact j1, s1, by rw [e6]; exact hd⟩ tc fun μ1 n s h6 => tm μ1 n s h6
theorem op_92 (hS : SH y X M) {x : Int32} : OpI G y X M cdA 0 92 [.int x] 208 [.int x] := by
  intro k μ n s hk hI
  obtain ⟨hE, hF, hDL, hM, hMA, hX⟩ := hS
  have hI' := hI
  obtain ⟨⟨a, e, f, i, b, p, hJ, hA, hd⟩, ⟨e0, c, hH⟩, -⟩ := hI'
  have hO := hA.ct hJ
  have hc := hJ.2.1
  unfold Jc at hc
  have hN := hJ.1
  have d6 := hJ.d6
  have tc := t92 (G := G) (μ := μ) (n := n) (s := s) hE hH.1 hO (x := x)
  have g0 : rd μ (X + 1) 0 = μ (M + 1) 0 := hA.g (lv_8 (by omega))
  have g1 : rd μ (X + 1) 1 = μ (M + 1) 1 := hA.g (lv_8 (by omega))
  have g2 : rd μ (X + 1) 2 = μ (M + 1) 2 := hA.g (lv_8 (by omega))
  have g3 : rd μ (X + 1) 3 = μ (M + 1) 3 := hA.g (lv_8 (by omega))
  have g4 : rd μ (X + 1) 4 = μ (M + 1) 4 := hA.g (lv_8 (by omega))
  have g5 : rd μ (X + 1) 5 = μ (M + 1) 5 := hA.g (lv_8 (by omega))
  have g6 := hA.d6 hJ
  have g7 : rd μ (X + 1) 7 = μ (M + 1) 7 := hA.g (lv_8 (by omega))
  try rw [g0] at tc
  try rw [g1] at tc
  try rw [g2] at tc
  try rw [g3] at tc
  try rw [g4] at tc
  try rw [g5] at tc
  by_cases d1 : 1 ≤ x ∧ x ≤ 400
  case neg => exact lf_exc hk hX hI (tc.trans (if_pos d1)) (fun μ1 n s hx => t208a hM d1) (by decide)
  replace tc := tc.trans (if_neg (not_not_intro d1))
  have hv := i64_v (lo := 1) (hi := 400) (by omega) d1 (by omega)
  rw [Int32.toInt_toInt64] at hv
  have e20 : (20000 < (μ (M + 1) 6).toInt32 + x) = (20000 < μ (M + 1) 6 + x.toInt64) := by
    rw [Int32.lt_iff_toInt_lt, Int64.lt_iff_toInt_lt, Int32.toInt_add, to32 (by omega) (by omega), ia (by rw [Int32.toInt_toInt64]; omega) (by rw [Int32.toInt_toInt64]; omega), Int32.toInt_toInt64, Int.bmod_eq_of_le (by omega) (by omega)]
    rfl
  simp only [g6.1, e20] at tc
  by_cases d2 : 20000 < μ (M + 1) 6 + x.toInt64
  case pos => exact lf_same hk hX hI (tc.trans (if_pos d2)) (fun μ1 n s hx => t208b hM d1 d2)
  replace tc := tc.trans (if_neg d2)
  have hq : x = nI x.toNatClampNeg := i32_of (Int32.le_iff_toInt_le.mpr (by rw [show (0 : Int32).toInt = 0 by decide]; omega))
  have hx2 : x.toInt = x.toNatClampNeg := by
    have := congrArg Int32.toInt hq
    rwa [nI_32 (by have := Int32.toInt_lt x; show x.toInt.toNat < _; omega)] at this
  generalize x.toNatClampNeg = q at *
  have hdq : (μ (M + 1) 6).toInt + q ≤ 20000 := by
    have h1 := mt Int64.lt_iff_toInt_lt.mpr d2
    rw [ia (by rw [Int32.toInt_toInt64]; omega) (by rw [Int32.toInt_toInt64]; omega), Int32.toInt_toInt64, show (20000 : Int64).toInt = 20000 by decide] at h1
    omega
  have j1 := hJ.days q (by omega) (by omega)
  have s1 := hA.days hJ q (by omega) (by omega)
  rw [(show kDays (rd μ (X + 1)) e f i b q 6 = pDays (μ (M + 1)) e f i b q 6 from s1.g (lv_8 (by decide)))] at tc
  refine lf_act8 hk hX hI hH ⟨a, e, f, i, b, p, j1.1.mono (by rw [j1.2]; omega) (by rw [j1.2]; omega), s1, by rw [j1.2]; omega⟩ tc fun μ1 n s h6 => t208c hM hMA hJ hH.1.2.2.2 h6 hq d1 d2 hdq (by omega) (by omega)
theorem op_69 (hS : SH y X M) : OpI G y X M cd0 0 69 [] 252 [] := by
  intro k μ n s hk hI
  obtain ⟨hE, hF, hDL, hM, hMA, hX⟩ := hS
  have hI' := hI
  obtain ⟨⟨a, e, f, i, b, p, hJ, hA, hd⟩, ⟨e0, c, hH⟩, -⟩ := hI'
  have hO := hA.ct hJ
  have hc := hJ.2.1
  unfold Jc at hc
  have hN := hJ.1
  have d6 := hJ.d6
  have tm := fun (μ1 : qMu) (n s : Nat) h6 => t252 (G := G) (μ := μ1) (n := n) (s := s) hM hMA hJ hH.1.2.2.2 h6 
  have g0 : rd μ (X + 1) 0 = μ (M + 1) 0 := hA.g (lv_8 (by omega))
  have g1 : rd μ (X + 1) 1 = μ (M + 1) 1 := hA.g (lv_8 (by omega))
  have g2 : rd μ (X + 1) 2 = μ (M + 1) 2 := hA.g (lv_8 (by omega))
  have g3 : rd μ (X + 1) 3 = μ (M + 1) 3 := hA.g (lv_8 (by omega))
  have g4 : rd μ (X + 1) 4 = μ (M + 1) 4 := hA.g (lv_8 (by omega))
  have g5 : rd μ (X + 1) 5 = μ (M + 1) 5 := hA.g (lv_8 (by omega))
  have g6 := hA.d6 hJ
  have g7 : rd μ (X + 1) 7 = μ (M + 1) 7 := hA.g (lv_8 (by omega))
  try rw [g0] at tc
  try rw [g1] at tc
  try rw [g2] at tc
  try rw [g3] at tc
  try rw [g4] at tc
  try rw [g5] at tc
  have tc := t69 (G := G) (μ := μ) (n := n) (s := s) (C := rd μ (X + 1)) hE hH.1 (fun h => by
    have := (hH.2.2 0 h).ctx
    rwa [show (e0 + 7 - 0) % 8 = (e0 + 7) % 8 by omega] at this)
  by_cases d1 : c = 0
  · exact lf_same hk hX hI (tc.trans (if_pos d1)) (fun μ1 n s hx => (tm μ1 n s (lx6 hx hH)).trans (if_pos d1))
  replace tc := tc.trans (if_neg d1)
  rw [wr_rd] at tc
  refine Or.inr ⟨_, uC μ X e0 c, tc, fun x hx => uC_hi hX (by omega), rfl, fun μ1 n s hx => ⟨_, (hI.undo hX hH (by omega) (by omega)).lx hX (uM_lx hx), fun x hx => ?_, ?_, ?_⟩⟩
  · rw [stc_ne (by omega), stc_ne (by omega)]
  · have := (tm μ1 n s (by rw [hx.eqM, uC_hi hX (Nat.le_refl _)]; exact hH.2.1)).trans (if_neg d1)
    rw [hx.self1 (by rw [uC_hi hX (by omega)])] at this
    exact this
  · rw [stc_ne (by omega), stc_eq, sv_get, if_neg (by decide), sv_get, if_pos rfl]
theorem op_124a (hS : SH y X M) {x z u v : Int32} (co : x = 0 ∨ z = 0) : OpI G y X M cd2 1 124 [.int x, .int z, .int u, .int v] 247 [.int x, .int z, .int u, .int v] := by
  intro k μ n s hk hI
  obtain ⟨hE, hF, hDL, hM, hMA, hX⟩ := hS
  have hI' := hI
  obtain ⟨⟨a, e, f, i, b, p, hJ, hA, hd⟩, ⟨e0, c, hH⟩, -⟩ := hI'
  have hO := hA.ct hJ
  have hc := hJ.2.1
  unfold Jc at hc
  have hN := hJ.1
  have d6 := hJ.d6
  have tc := t124 (G := G) (μ := μ) (n := n) (s := s) hE hH.1 hO (show p ≤ 6 by omega) (hA.c5 hJ) (x := x) (x' := z) (a := u) (v := v)
  have tm := fun (μ1 : qMu) (n s : Nat) h6 => t247a (G := G) (μ := μ1) (n := n) (s := s) hM hMA hJ hH.1.2.2.2 h6 (x := x) (z := z) (u := u) (v := v) co
  have g0 : rd μ (X + 1) 0 = μ (M + 1) 0 := hA.g (lv_8 (by omega))
  have g1 : rd μ (X + 1) 1 = μ (M + 1) 1 := hA.g (lv_8 (by omega))
  have g2 : rd μ (X + 1) 2 = μ (M + 1) 2 := hA.g (lv_8 (by omega))
  have g3 : rd μ (X + 1) 3 = μ (M + 1) 3 := hA.g (lv_8 (by omega))
  have g4 : rd μ (X + 1) 4 = μ (M + 1) 4 := hA.g (lv_8 (by omega))
  have g5 : rd μ (X + 1) 5 = μ (M + 1) 5 := hA.g (lv_8 (by omega))
  have g6 := hA.d6 hJ
  have g7 : rd μ (X + 1) 7 = μ (M + 1) 7 := hA.g (lv_8 (by omega))
  try rw [g0] at tc
  try rw [g1] at tc
  try rw [g2] at tc
  try rw [g3] at tc
  try rw [g4] at tc
  try rw [g5] at tc
  by_cases d1 : inR x (μ (M + 1) 5)
  case neg => exact lf_exc hk hX hI (tc.trans (if_pos d1)) (fun μ1 n s hx => (tm μ1 n s (lx6 hx hH)).trans (if_pos d1)) (by decide)
  replace tc := tc.trans (if_neg (not_not_intro d1))
  replace tm := fun μ1 n s h6 => (tm μ1 n s h6).trans (if_neg (not_not_intro d1))
  by_cases d2 : inR z (μ (M + 1) 5)
  case neg => exact lf_exc hk hX hI (tc.trans (if_pos d2)) (fun μ1 n s hx => (tm μ1 n s (lx6 hx hH)).trans (if_pos d2)) (by decide)
  replace tc := tc.trans (if_neg (not_not_intro d2))
  replace tm := fun μ1 n s h6 => (tm μ1 n s h6).trans (if_neg (not_not_intro d2))
  have d3 : inR u (μ (M + 1) 0) ∨ ¬ inR u (μ (M + 1) 0) := Decidable.em _
  rcases d3 with d3 | d3
  rotate_left
  · exact lf_exc hk hX hI (tc.trans (if_pos fun h => d3 (h co))) (fun μ1 n s hx => (tm μ1 n s (lx6 hx hH)).trans (if_pos d3)) (by decide)
  replace tc := tc.trans (if_neg (not_not_intro fun _ => d3))
  replace tm := fun μ1 n s h6 => (tm μ1 n s h6).trans (if_neg (not_not_intro d3))
  by_cases d4 : x = z
  case pos => exact lf_exc hk hX hI (tc.trans (if_pos d4)) (fun μ1 n s hx => (tm μ1 n s (lx6 hx hH)).trans (if_pos (not_not_intro d4))) (by decide)
  replace tc := tc.trans (if_neg d4)
  replace tm := fun μ1 n s h6 => (tm μ1 n s h6).trans (if_neg (not_not_intro d4))
  by_cases d5 : 1 ≤ v ∧ v ≤ 1000000
  case neg => exact lf_exc hk hX hI (tc.trans (if_pos d5)) (fun μ1 n s hx => (tm μ1 n s (lx6 hx hH)).trans (if_pos d5)) (by decide)
  replace tc := tc.trans (if_neg (not_not_intro d5))
  replace tm := fun μ1 n s h6 => (tm μ1 n s h6).trans (if_neg (not_not_intro d5))
  obtain ⟨x, hx, rfl⟩ := inR_n (c := p) (by omega) hJ.c5 d1
  obtain ⟨z, hz, rfl⟩ := inR_n (c := p) (by omega) hJ.c5 d2
  obtain ⟨u, hu, rfl⟩ := inR_n (c := a) (by omega) hJ.c0 d3
  have zx : (nI x).toNatClampNeg = x := nI_clamp (by omega)
  have zz : (nI z).toNatClampNeg = z := nI_clamp (by omega)
  have zu : (nI u).toNatClampNeg = u := nI_clamp (by omega)
  simp only [zx, zz, zu] at tc tm
  have hxz : x ≠ z := fun q => d4 (by rw [q])
  have x0 : (nI x = 0) = (x = 0) := mI_eq (i := x) (k := 0) (by omega) (by omega)
  have z0 : (nI z = 0) = (z = 0) := mI_eq (i := z) (k := 0) (by omega) (by omega)
  have hv := i64_v (lo := 1) (hi := 1000000) (by omega) d5 (by omega)
  rw [Int32.toInt_toInt64] at hv
  have hw : -1000000 ≤ (if nI x = 0 then -v else v).toInt64.toInt ∧ (if nI x = 0 then -v else v).toInt64.toInt ≤ 1000000 := by
    split
    · rw [Int32.toInt_toInt64, Int32.toInt_neg, Int.bmod_eq_of_le (by omega) (by omega)]; omega
    · rw [Int32.toInt_toInt64]; omega
  have ek : kSet1 (rd μ (X + 1)) (nI x) (nI z) (nI u) v = kChg (rd μ (X + 1)) (nI u) (if nI x = 0 then -v else v).toInt64 := by
    unfold kSet1
    by_cases q : x = 0
    · have hx0 : nI x = 0 := by rw [x0]; exact q
      have hz0 : ¬ nI z = 0 := by rw [z0]; omega
      rw [if_neg hz0, if_pos hx0, if_pos hx0]
    · have hx0 : ¬ nI x = 0 := by rw [x0]; exact q
      have hz0 : nI z = 0 := co.resolve_left hx0
      rw [if_pos hz0, if_neg hx0, if_neg hx0]
  generalize (if nI x = 0 then -v else v).toInt64 = w at *
  rw [ek] at tc
  have s0 := hA.chg hJ hu (v := w) rfl
  have j0 := hJ.acc (x := u) (v := w) (by omega) (by omega) (by omega)
  have s2 := (s0.put (k := 185 + x) (v := kChg (rd μ (X + 1)) (nI u) w (185 + x) + v.toInt64) (w := sv (μ (M + 1)) (9 + u) (μ (M + 1) (9 + u) + w) (185 + x) + v.toInt64) (by omega) (by omega) (by rw [s0.g (by unfold Live; omega)])).put (k := 185 + z) (v := sv (kChg (rd μ (X + 1)) (nI u) w) (185 + x) (kChg (rd μ (X + 1)) (nI u) w (185 + x) + v.toInt64) (185 + z) - v.toInt64) (w := sv (sv (μ (M + 1)) (9 + u) (μ (M + 1) (9 + u) + w)) (185 + x) (sv (μ (M + 1)) (9 + u) (μ (M + 1) (9 + u) + w) (185 + x) + v.toInt64) (185 + z) - v.toInt64) (by omega) (by omega) (by
    rw [sv_get, if_neg (by omega), s0.g (k := 185 + z) (by unfold Live; omega), sv_get _ (185 + x), if_neg (by omega)])
  have s3 : AL a e f i b (kSet2 (kChg (rd μ (X + 1)) (nI u) w) x z v) (sv (pShf (μ (M + 1)) (185 + z) (185 + x) v.toInt64) (9 + u) (pShf (μ (M + 1)) (185 + z) (185 + x) v.toInt64 (9 + u) + w)) :=
    AL.dx hJ.2.1 s2 fun g hg => (set_row (D := μ (M + 1)) (g := g) (u := 9 + u) (x := 185 + x) (z := 185 + z) (v := v.toInt64) (w := w) (by omega) (by omega) (by omega) (by omega)).symm
  have j1 : J (23 * (μ (M + 1) 6).toInt.toNat + k + 1 + 1) a e f i b p (sv (pShf (μ (M + 1)) (185 + z) (185 + x) v.toInt64) (9 + u) (pShf (μ (M + 1)) (185 + z) (185 + x) v.toInt64 (9 + u) + w)) :=
    (hJ.shf (jB_Np hz (by omega)) (jB_Np hx (by omega))).acc (by omega) (by omega) (by omega)
  have e6 : sv (pShf (μ (M + 1)) (185 + z) (185 + x) v.toInt64) (9 + u) (pShf (μ (M + 1)) (185 + z) (185 + x) v.toInt64 (9 + u) + w) 6 = μ (M + 1) 6 := by rw [sv_get, if_neg (by omega), pShf_o (by omega) (by omega)]
  rw [s3.g (k := 185 + x) (by unfold Live; omega)] at tc
  refine lf_act hk hX hI hH ⟨a, e, f, i, b, p, by rw [e6]; exact j1, s3, by rw [e6]; exact hd⟩ tc fun μ1 n s h6 => ?_
  exact tm μ1 n s h6
theorem op_124b (hS : SH y X M) {x z u v : Int32} (co : ¬ (x = 0 ∨ z = 0)) : OpI G y X M cd2 1 124 [.int x, .int z, .int u, .int v] 247 [.int x, .int z, .int u, .int v] := by
  intro k μ n s hk hI
  obtain ⟨hE, hF, hDL, hM, hMA, hX⟩ := hS
  have hI' := hI
  obtain ⟨⟨a, e, f, i, b, p, hJ, hA, hd⟩, ⟨e0, c, hH⟩, -⟩ := hI'
  have hO := hA.ct hJ
  have hc := hJ.2.1
  unfold Jc at hc
  have hN := hJ.1
  have d6 := hJ.d6
  have tc := t124 (G := G) (μ := μ) (n := n) (s := s) hE hH.1 hO (show p ≤ 6 by omega) (hA.c5 hJ) (x := x) (x' := z) (a := u) (v := v)
  have tm := fun (μ1 : qMu) (n s : Nat) h6 => t247b (G := G) (μ := μ1) (n := n) (s := s) hM hMA hJ hH.1.2.2.2 h6 (x := x) (z := z) (u := u) (v := v) co
  have g0 : rd μ (X + 1) 0 = μ (M + 1) 0 := hA.g (lv_8 (by omega))
  have g1 : rd μ (X + 1) 1 = μ (M + 1) 1 := hA.g (lv_8 (by omega))
  have g2 : rd μ (X + 1) 2 = μ (M + 1) 2 := hA.g (lv_8 (by omega))
  have g3 : rd μ (X + 1) 3 = μ (M + 1) 3 := hA.g (lv_8 (by omega))
  have g4 : rd μ (X + 1) 4 = μ (M + 1) 4 := hA.g (lv_8 (by omega))
  have g5 : rd μ (X + 1) 5 = μ (M + 1) 5 := hA.g (lv_8 (by omega))
  have g6 := hA.d6 hJ
  have g7 : rd μ (X + 1) 7 = μ (M + 1) 7 := hA.g (lv_8 (by omega))
  try rw [g0] at tc
  try rw [g1] at tc
  try rw [g2] at tc
  try rw [g3] at tc
  try rw [g4] at tc
  try rw [g5] at tc
  by_cases d1 : inR x (μ (M + 1) 5)
  case neg => exact lf_exc hk hX hI (tc.trans (if_pos d1)) (fun μ1 n s hx => (tm μ1 n s (lx6 hx hH)).trans (if_pos d1)) (by decide)
  replace tc := tc.trans (if_neg (not_not_intro d1))
  replace tm := fun μ1 n s h6 => (tm μ1 n s h6).trans (if_neg (not_not_intro d1))
  by_cases d2 : inR z (μ (M + 1) 5)
  case neg => exact lf_exc hk hX hI (tc.trans (if_pos d2)) (fun μ1 n s hx => (tm μ1 n s (lx6 hx hH)).trans (if_pos d2)) (by decide)
  replace tc := tc.trans (if_neg (not_not_intro d2))
  replace tm := fun μ1 n s h6 => (tm μ1 n s h6).trans (if_neg (not_not_intro d2))
  replace tc := tc.trans (if_neg (not_not_intro fun h => absurd h co))
  by_cases d3 : x = z
  case pos => exact lf_exc hk hX hI (tc.trans (if_pos d3)) (fun μ1 n s hx => (tm μ1 n s (lx6 hx hH)).trans (if_pos (not_not_intro d3))) (by decide)
  replace tc := tc.trans (if_neg d3)
  replace tm := fun μ1 n s h6 => (tm μ1 n s h6).trans (if_neg (not_not_intro d3))
  by_cases d4 : 1 ≤ v ∧ v ≤ 1000000
  case neg => exact lf_exc hk hX hI (tc.trans (if_pos d4)) (fun μ1 n s hx => (tm μ1 n s (lx6 hx hH)).trans (if_pos d4)) (by decide)
  replace tc := tc.trans (if_neg (not_not_intro d4))
  replace tm := fun μ1 n s h6 => (tm μ1 n s h6).trans (if_neg (not_not_intro d4))
  obtain ⟨x, hx, rfl⟩ := inR_n (c := p) (by omega) hJ.c5 d1
  obtain ⟨z, hz, rfl⟩ := inR_n (c := p) (by omega) hJ.c5 d2
  have zx : (nI x).toNatClampNeg = x := nI_clamp (by omega)
  have zz : (nI z).toNatClampNeg = z := nI_clamp (by omega)
  simp only [zx, zz] at tc tm
  have hxz : x ≠ z := fun q => d3 (by rw [q])
  have ek : kSet1 (rd μ (X + 1)) (nI x) (nI z) u v = rd μ (X + 1) := by
    unfold kSet1
    rw [if_neg (fun q => co (Or.inr q)), if_neg (fun q => co (Or.inl q))]
  rw [ek] at tc
  have s2 := (hA.put (k := 185 + x) (v := rd μ (X + 1) (185 + x) + v.toInt64) (w := μ (M + 1) (185 + x) + v.toInt64) (by omega) (by omega) (by rw [hA.g (by unfold Live; omega)])).put (k := 185 + z) (v := sv (rd μ (X + 1)) (185 + x) (rd μ (X + 1) (185 + x) + v.toInt64) (185 + z) - v.toInt64) (w := sv (μ (M + 1)) (185 + x) (μ (M + 1) (185 + x) + v.toInt64) (185 + z) - v.toInt64) (by omega) (by omega) (by
    rw [sv_get, if_neg (by omega), hA.g (k := 185 + z) (by unfold Live; omega), sv_get _ (185 + x), if_neg (by omega)])
  have s3 : AL a e f i b (kSet2 (rd μ (X + 1)) x z v) (pShf (μ (M + 1)) (185 + z) (185 + x) v.toInt64) :=
    AL.dx hJ.2.1 s2 fun g hg => (set_row0 (D := μ (M + 1)) (g := g) (x := 185 + x) (z := 185 + z) (v := v.toInt64) (by omega)).symm
  have j1 : J (23 * (μ (M + 1) 6).toInt.toNat + k + 1 + 1) a e f i b p (pShf (μ (M + 1)) (185 + z) (185 + x) v.toInt64) :=
    ((hJ.shf (jB_Np hz (by omega)) (jB_Np hx (by omega))).mono (Nat.le_succ _) (by omega))
  have e6 : pShf (μ (M + 1)) (185 + z) (185 + x) v.toInt64 6 = μ (M + 1) 6 := pShf_o (by omega) (by omega)
  rw [s3.g (k := 185 + x) (by unfold Live; omega)] at tc
  refine lf_act hk hX hI hH ⟨a, e, f, i, b, p, by rw [e6]; exact j1, s3, by rw [e6]; exact hd⟩ tc fun μ1 n s h6 => ?_
  exact tm μ1 n s h6
theorem op_124 (hS : SH y X M) {x z u v : Int32} : OpI G y X M cd2 1 124 [.int x, .int z, .int u, .int v] 247 [.int x, .int z, .int u, .int v] := by
  by_cases co : x = 0 ∨ z = 0
  · exact op_124a hS co
  · exact op_124b hS co
end OPV
