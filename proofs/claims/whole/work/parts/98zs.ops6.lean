/-! ===== A call of the class beside the model's, 6: a shared expense ===== -/
section OPX
variable {G : qG} {y : Nat → Option qSh} {μ ν : qMu} {X M k n s N a e f i b p e0 c : Nat} {C D : Row}
theorem w_n {w : Int32} (hp : p ≤ 6) (h : 1 ≤ w ∧ w ≤ (1 : Int32) <<< (nI p &&& 31) - (1 : Int32)) : ∃ m, m < 64 ∧ 0 < m ∧ w = nI m := by
  obtain ⟨b1, b2⟩ := h
  rw [(sh_max p hp).1] at b2
  have hm := (sh_max p hp).2
  have b0 : (0 : Int32) ≤ w := Int32.le_trans (by decide) b1
  refine ⟨w.toNatClampNeg, ?_, ?_, i32_of b0⟩
  · have := i32_of b0
    rw [this, mI_le (by have := Int32.toInt_lt w; show w.toInt.toNat < _; omega) (by omega)] at b2
    omega
  · have : (1 : Int32) ≤ nI w.toNatClampNeg := by rw [← i32_of b0]; exact b1
    have : nI 1 ≤ nI w.toNatClampNeg := this
    rw [mI_le (by decide) (by have := Int32.toInt_lt w; show w.toInt.toNat < _; omega)] at this
    omega
theorem sw_bit : ∀ m, m < 64 → ∀ q, q < 6 → (nI m &&& 1 <<< (nI q &&& 31) = 0 ↔ nI m >>> (nI q &&& 31) &&& 1 = 0) := by decide +kernel
theorem sw_0 : ∀ m, m < 64 → (nI m &&& 1 <<< (nI 0 &&& 31) = 0 ↔ nI m &&& 1 = 0) := by decide +kernel
theorem sw_ct : ∀ m, m < 64 → 0 < m → 1 ≤ (bitc (nI m)).toInt ∧ (bitc (nI m)).toInt ≤ 6 ∧ mxI 1 (bitc (nI m)) = bitc (nI m) := by decide +kernel
/-- a part -/
def shQ (a h r : Int32) : Int32 := a / h + (if r ≤ 0 then 0 else 1)
theorem shQ_64 {v h r : Int32} (hv : 1 ≤ v.toInt ∧ v.toInt ≤ 1000000) (hh : 1 ≤ h.toInt ∧ h.toInt ≤ 6) : (shQ v h r).toInt64 = shP v h r ∧ 0 ≤ (v / h).toInt ∧ (v / h).toInt ≤ 1000000 := by
  have e0 : (v / h).toInt = v.toInt / h.toInt := by
    rw [Int32.toInt_div, Int.tdiv_eq_ediv_of_nonneg (by omega)]
    have h1 : v.toInt / h.toInt ≤ v.toInt := Int.ediv_le_self _ (by omega)
    have h2 : 0 ≤ v.toInt / h.toInt := Int.ediv_nonneg (by omega) (by omega)
    exact Int.bmod_eq_of_le (by omega) (by omega)
  have h1 : v.toInt / h.toInt ≤ v.toInt := Int.ediv_le_self _ (by omega)
  have h2 : 0 ≤ v.toInt / h.toInt := Int.ediv_nonneg (by omega) (by omega)
  refine ⟨?_, by omega, by omega⟩
  unfold shQ shP
  apply i64_ext
  split
  · rw [Int32.add_zero, Int64.add_zero]
  · rw [ia (by rw [Int32.toInt_toInt64, e0, show (1 : Int64).toInt = 1 by decide]; omega) (by rw [Int32.toInt_toInt64, e0, show (1 : Int64).toInt = 1 by decide]; omega), Int32.toInt_toInt64, Int32.toInt_toInt64, Int32.toInt_add, e0, show (1 : Int32).toInt = 1 by decide, show (1 : Int64).toInt = 1 by decide]
    exact Int.bmod_eq_of_le (by omega) (by omega)
/-- what the loop makes of a row -/
def shRow (C : Row) (g : Nat → Int64) (q : Nat) : Row := fun k => if 185 ≤ k ∧ k < 185 + q then C k - g k else C k
theorem shL_eq {v : Int32} {w : Nat} {h r0 : Int32} (hw : w < 64) (hv : 1 ≤ v.toInt ∧ v.toInt ≤ 1000000) (hh : 1 ≤ h.toInt ∧ h.toInt ≤ 6) : ∀ q, q ≤ 6 → ∃ g r, ∀ C D : Row, kShL C v h (nI w) r0 q = (shRow C g q, r, if q = 0 then 0 else if nI w &&& 1 = 0 then 0 else shQ v h r0) ∧ pShL D v h (nI w) r0 q = (shRow D g q, r, (if q = 0 then 0 else if nI w &&& 1 = 0 then 0 else shQ v h r0).toInt64) ∧ (q = 0 → r = r0)
  | 0, _ => ⟨fun _ => 0, r0, fun C D => by
    rw [kShL, pShL, if_pos rfl]
    have e1 : ∀ C : Row, shRow C (fun _ => 0) 0 = C := fun C => by
      funext k
      unfold shRow
      rw [if_neg (by omega)]
    rw [e1, e1]
    exact ⟨rfl, rfl, fun _ => rfl⟩⟩
  | q + 1, hq => by
    obtain ⟨g, r, ih⟩ := shL_eq (r0 := r0) hw hv hh q (by omega)
    have e1 := sw_bit w hw q (by omega)
    by_cases c1 : nI w &&& 1 <<< (nI q &&& 31) = 0
    · refine ⟨fun k => if k < 185 + q then g k else 0, r, fun C D => ?_⟩
      obtain ⟨i1, i2, i3⟩ := ih C D
      have eR : ∀ C : Row, shRow C (fun k => if k < 185 + q then g k else 0) (q + 1) = shRow C g q := fun C => by
        funext k
        unfold shRow
        by_cases d1 : 185 ≤ k ∧ k < 185 + q
        · rw [if_pos d1, if_pos (by omega)]
          dsimp only
          rw [if_pos d1.2]
        · rw [if_neg d1]
          by_cases d2 : 185 ≤ k ∧ k < 185 + (q + 1)
          · rw [if_pos d2]
            dsimp only
            rw [if_neg (by omega), Int64.sub_zero]
          · rw [if_neg d2]
      have eO : (if q = 0 then (0 : Int32) else if nI w &&& 1 = 0 then 0 else shQ v h r0) = if q + 1 = 0 then 0 else if nI w &&& 1 = 0 then 0 else shQ v h r0 := by
        rw [if_neg (Nat.succ_ne_zero q)]
        by_cases d1 : q = 0
        · subst d1
          rw [if_pos rfl, if_pos ((sw_0 w hw).mp c1)]
        · rw [if_neg d1]
      rw [kShL, pShL, if_pos c1, if_pos (e1.mp c1), i1, i2, eR, eR, eO]
      exact ⟨rfl, rfl, fun h => absurd h (Nat.succ_ne_zero q)⟩
    · refine ⟨fun k => if k < 185 + q then g k else (shQ v h r).toInt64, r + Int32.ofInt (-1), fun C D => ?_⟩
      obtain ⟨i1, i2, i3⟩ := ih C D
      have eR : ∀ C : Row, sv (shRow C g q) (185 + q) (shRow C g q (185 + q) - (shQ v h r).toInt64) = shRow C (fun k => if k < 185 + q then g k else (shQ v h r).toInt64) (q + 1) := fun C => by
        funext k
        rw [sv_get]
        unfold shRow
        by_cases d0 : k = 185 + q
        · subst d0
          rw [if_pos rfl, if_neg (by omega), if_pos (by omega)]
          dsimp only
          rw [if_neg (by omega)]
        · rw [if_neg d0]
          by_cases d1 : 185 ≤ k ∧ k < 185 + q
          · rw [if_pos d1, if_pos (by omega)]
            dsimp only
            rw [if_pos d1.2]
          · rw [if_neg d1, if_neg (by omega)]
      have eO : (if nI q = 0 then shQ v h r else if q = 0 then 0 else if nI w &&& 1 = 0 then 0 else shQ v h r0) = if q + 1 = 0 then 0 else if nI w &&& 1 = 0 then 0 else shQ v h r0 := by
        rw [if_neg (Nat.succ_ne_zero q)]
        by_cases d1 : q = 0
        · subst d1
          rw [if_pos (show nI 0 = 0 from rfl), if_neg (fun q2 => c1 ((sw_0 w hw).mpr q2)), i3 rfl]
        · rw [if_neg d1, if_neg]
          have : (nI q = nI 0) = (q = 0) := mI_eq (by omega) (by omega)
          rw [show (0 : Int32) = nI 0 from rfl, this]
          exact d1
      rw [kShL, pShL, if_neg c1, if_neg (fun q2 => c1 (e1.mpr q2)), i1, i2]
      dsimp only
      rw [← eO, ← eR C, ← eR D, ← (shQ_64 (r := r) hv hh).1]
      refine ⟨rfl, ?_, fun h => absurd h (Nat.succ_ne_zero q)⟩
      refine Prod.ext rfl (Prod.ext rfl ?_)
      show (if nI q = 0 then (shQ v h r).toInt64 else _) = (if nI q = 0 then shQ v h r else _).toInt64
      split <;> rfl
theorem shQ_pos {v h : Int32} (hv : 1 ≤ v.toInt ∧ v.toInt ≤ 1000000) (hh : 1 ≤ h.toInt ∧ h.toInt ≤ 6) : ¬ shQ v h (v - v / h * h) ≤ 0 := by
  have h0 := (shQ_64 (r := 0) hv hh).2
  have e0 : (v / h).toInt = v.toInt / h.toInt := by
    rw [Int32.toInt_div, Int.tdiv_eq_ediv_of_nonneg (by omega)]
    have h1 : v.toInt / h.toInt ≤ v.toInt := Int.ediv_le_self _ (by omega)
    have h2 : 0 ≤ v.toInt / h.toInt := Int.ediv_nonneg (by omega) (by omega)
    exact Int.bmod_eq_of_le (by omega) (by omega)
  unfold shQ
  rw [Int32.le_iff_toInt_le, show (0 : Int32).toInt = 0 by decide]
  by_cases d1 : v / h = 0
  · rw [d1, Int32.zero_mul, Int32.sub_zero, Int32.zero_add, if_neg]
    · decide
    · rw [Int32.le_iff_toInt_le, show (0 : Int32).toInt = 0 by decide]; omega
  · have d2 : (v / h).toInt ≠ 0 := fun q => d1 (Int32.toInt_inj.mp q)
    rw [Int32.toInt_add]
    split
    · rw [show (0 : Int32).toInt = 0 by decide, Int.bmod_eq_of_le (by omega) (by omega)]; omega
    · rw [show (1 : Int32).toInt = 1 by decide, Int.bmod_eq_of_le (by omega) (by omega)]; omega
theorem AL.shr (h : AL a e f i b C D) {q : Nat} (hq : q ≤ 6) {g : Nat → Int64} : AL a e f i b (shRow C g q) (shRow D g q) := by
  obtain ⟨h1, l, l1, l2, l3, l4, l5⟩ := h
  refine ⟨fun k hk => ?_, l, l1, ?_, ?_, ?_, fun x hx w hw => ?_⟩
  · unfold shRow
    rw [h1 k hk]
  · unfold shRow; rw [if_neg (by omega)]; exact l2
  · unfold shRow; rw [if_neg (by omega)]; exact l3
  · unfold shRow; rw [if_neg (by omega)]; exact l4
  · unfold shRow; rw [if_neg (by omega), if_neg (by omega)]; exact l5 x hx w hw
theorem J.shr (h : J N a e f i b p D) {g : Nat → Int64} : J N a e f i b p (shRow D g p) := by
  have hc := h.2.1
  unfold Jc at hc
  refine h.chg h.2.1 fun k => ?_
  unfold shRow
  by_cases d1 : 185 ≤ k ∧ k < 185 + p
  · rw [if_pos d1]
    refine Or.inl ?_
    rw [show k = 185 + (k - 185) by omega, jB_Np (by omega) (by omega)]
    exact IB_full
  · rw [if_neg d1]
    exact Or.inr ⟨rfl, Int.le_refl _, Int.le_refl _⟩
theorem op_121 (hS : SH y X M) {x u z v w : Int32} : OpI G y X M cd2 1 121 [.int x, .int u, .int z, .int v, .int w] 244 [.int x, .int u, .int z, .int v, .int w] := by
  intro k μ n s hk hI
  obtain ⟨hE, hF, hDL, hM, hMA, hX⟩ := hS
  have hI' := hI
  obtain ⟨⟨a, e, f, i, b, p, hJ, hA, hd⟩, ⟨e0, c, hH⟩, -⟩ := hI'
  have hO := hA.ct hJ
  have hc := hJ.2.1
  unfold Jc at hc
  have hN := hJ.1
  have d6 := hJ.d6
  have tc := t121 (G := G) (μ := μ) (n := n) (s := s) hE hH.1 hO (show p ≤ 6 by omega) (hA.c5 hJ) (x := x) (a := u) (z := z) (v := v) (w := w)
  have tm := fun (μ1 : qMu) (n s : Nat) h6 => t244 (G := G) (μ := μ1) (n := n) (s := s) hM hMA hJ hH.1.2.2.2 h6 (x := x) (u := u) (z := z) (v := v) (w := w)
  have g0 : rd μ (X + 1) 0 = μ (M + 1) 0 := hA.g (lv_8 (by omega))
  have g1 : rd μ (X + 1) 1 = μ (M + 1) 1 := hA.g (lv_8 (by omega))
  have g2 : rd μ (X + 1) 2 = μ (M + 1) 2 := hA.g (lv_8 (by omega))
  have g3 : rd μ (X + 1) 3 = μ (M + 1) 3 := hA.g (lv_8 (by omega))
  have g4 : rd μ (X + 1) 4 = μ (M + 1) 4 := hA.g (lv_8 (by omega))
  have g5 : rd μ (X + 1) 5 = μ (M + 1) 5 := hA.g (lv_8 (by omega))
  have g6 := hA.d6 hJ
  have g7 : rd μ (X + 1) 7 = μ (M + 1) 7 := hA.g (lv_8 (by omega))
  try rw [g0] at tc
  try rw [g1] at tc
  try rw [g2] at tc
  try rw [g3] at tc
  try rw [g4] at tc
  try rw [g5] at tc
  by_cases d1 : inR x (μ (M + 1) 5)
  case neg => exact lf_exc hk hX hI (tc.trans (if_pos d1)) (fun μ1 n s hx => (tm μ1 n s (lx6 hx hH)).trans (if_pos fun h => d1 h.1)) (by decide)
  replace tc := tc.trans (if_neg (not_not_intro d1))
  by_cases d2 : x = 0 → inR u (μ (M + 1) 0)
  case neg => exact lf_exc hk hX hI (tc.trans (if_pos d2)) (fun μ1 n s hx => (tm μ1 n s (lx6 hx hH)).trans (if_pos fun h => d2 h.2.1)) (by decide)
  replace tc := tc.trans (if_neg (not_not_intro d2))
  by_cases d3 : w &&& 1 = 0 ∨ inR z (μ (M + 1) 1)
  case neg => exact lf_exc hk hX hI (tc.trans (if_pos d3)) (fun μ1 n s hx => (tm μ1 n s (lx6 hx hH)).trans (if_pos fun h => d3 h.2.2)) (by decide)
  replace tc := tc.trans (if_neg (not_not_intro d3))
  replace tm := fun μ1 n s h6 => (tm μ1 n s h6).trans (if_neg (not_not_intro ⟨d1, d2, d3⟩))
  by_cases d4 : 1 ≤ v ∧ v ≤ 1000000
  case neg => exact lf_exc hk hX hI (tc.trans (if_pos d4)) (fun μ1 n s hx => (tm μ1 n s (lx6 hx hH)).trans (if_pos fun h => d4 h.1)) (by decide)
  replace tc := tc.trans (if_neg (not_not_intro d4))
  by_cases d5 : 1 ≤ w ∧ w ≤ (1 : Int32) <<< ((μ (M + 1) 5).toInt32 &&& 31) - 1
  case neg => exact lf_exc hk hX hI (tc.trans (if_pos d5)) (fun μ1 n s hx => (tm μ1 n s (lx6 hx hH)).trans (if_pos fun h => d5 h.2.2)) (by decide)
  replace tc := tc.trans (if_neg (not_not_intro d5))
  by_cases dq : ¬ x = 0 ∧ ¬ u = -1
  case pos => exact lf_exc hk hX hI (tc.trans (if_pos dq)) (fun μ1 n s hx => (tm μ1 n s (lx6 hx hH)).trans (if_pos fun h => h.2.1.elim dq.1 dq.2)) (by decide)
  replace tc := tc.trans (if_neg dq)
  have dr : x = 0 ∨ u = -1 := by
    by_cases q : x = 0
    · exact Or.inl q
    · exact Or.inr (Decidable.byContradiction fun q2 => dq ⟨q, q2⟩)
  replace tm := fun μ1 n s h6 => (tm μ1 n s h6).trans (if_neg (not_not_intro ⟨d4, dr, d5⟩))
  rw [hJ.c5, i64_32] at d5
  obtain ⟨w, hw, hw0, rfl⟩ := w_n (by omega) d5
  obtain ⟨x, hx, rfl⟩ := inR_n (c := p) (by omega) hJ.c5 d1
  have zx : (nI x).toNatClampNeg = x := nI_clamp (by omega)
  have x0 : (nI x = 0) = (x = 0) := mI_eq (i := x) (k := 0) (by omega) (by omega)
  have hv := i64_v (lo := 1) (hi := 1000000) (by omega) d4 (by omega)
  have hv' := hv
  rw [Int32.toInt_toInt64] at hv
  obtain ⟨b1, b2, b3⟩ := sw_ct w hw hw0
  obtain ⟨g, r, hg⟩ := shL_eq (v := v) (h := bitc (nI w)) (r0 := v - v / bitc (nI w) * bitc (nI w)) hw hv ⟨b1, b2⟩ p (by omega)
  have kL : ∀ C, kShL C v (mxI 1 (bitc (nI w))) (nI w) (v - v / mxI 1 (bitc (nI w)) * mxI 1 (bitc (nI w))) p = (shRow C g p, r, if nI w &&& 1 = 0 then 0 else shQ v (bitc (nI w)) (v - v / bitc (nI w) * bitc (nI w))) := fun C => by
    rw [b3, (hg C C).1, if_neg (show ¬ p = 0 by omega)]
  have pL : ∀ D, pShL D v (bitc (nI w)) (nI w) (v - v / bitc (nI w) * bitc (nI w)) p = (shRow D g p, r, (if nI w &&& 1 = 0 then 0 else shQ v (bitc (nI w)) (v - v / bitc (nI w) * bitc (nI w))).toInt64) := fun D => by
    rw [(hg D D).2.1, if_neg (show ¬ p = 0 by omega)]
  -- the class's row and the model's
  have sA : ∃ Dq, AL a e f i b (kChg (rd μ (X + 1)) u (-v).toInt64) Dq ∧ J (23 * (μ (M + 1) 6).toInt.toNat + k + 1 + 1) a e f i b p Dq ∧ (∀ j, pSh2 (μ (M + 1)) (nI x) u v (nI w) p j = sv (shRow Dq g p) (185 + x) (shRow Dq g p (185 + x) + v.toInt64) j) ∧ Dq 6 = μ (M + 1) 6 := by
    unfold pSh2 pSh0
    rw [pL, zx]
    by_cases q : nI x = 0
    · obtain ⟨u, hu, rfl⟩ := inR_n (c := a) (by omega) hJ.c0 (d2 q)
      have zu : (nI u).toNatClampNeg = u := nI_clamp (by omega)
      refine ⟨sv (μ (M + 1)) (9 + u) (μ (M + 1) (9 + u) - v.toInt64), ?_, hJ.acs (by omega) (by omega) (by omega), fun j => ?_, by rw [sv_get, if_neg (by omega)]⟩
      · rw [← i_sub]
        exact hA.chg hJ hu (g_neg32 (by omega))
      · rw [if_pos q, zu]
        dsimp only
        simp only [sv_get]
        unfold shRow
        simp only [sv_get]
        rw [if_pos (show 185 ≤ 185 + x ∧ 185 + x < 185 + p by omega), if_neg (show ¬ (185 ≤ 9 + u ∧ 9 + u < 185 + p) by omega), if_neg (show ¬ 9 + u = 185 + x by omega), if_neg (show ¬ 185 + x = 9 + u by omega)]
        by_cases q1 : j = 185 + x
        · subst q1
          rw [if_neg (by omega), if_pos (by omega), if_pos rfl, if_pos rfl]
          rw [Int64.sub_eq_add_neg, Int64.sub_eq_add_neg, Int64.add_assoc, Int64.add_assoc, Int64.add_comm v.toInt64]
        · rw [if_neg q1, if_neg q1]
          by_cases q2 : j = 9 + u
          · rw [if_pos q2, if_neg (by omega), if_pos q2]
          · rw [if_neg q2, if_neg q2]
    · have hu : u = -1 := dr.resolve_left q
      subst hu
      have eC : kChg (rd μ (X + 1)) (-1) (-v).toInt64 = rd μ (X + 1) := by
        unfold kChg
        rw [if_neg (fun h => absurd h.1 (by decide))]
      refine ⟨μ (M + 1), by rw [eC]; exact hA, hJ.mono (Nat.le_succ _) (by omega), fun j => ?_, rfl⟩
      rw [if_neg q]
      dsimp only
      simp only [sv_get]
      unfold shRow
      simp only [sv_get]
      rw [if_pos (show 185 ≤ 185 + x ∧ 185 + x < 185 + p by omega)]
      by_cases q1 : j = 185 + x
      · subst q1
        rw [if_pos (by omega), if_pos rfl, if_pos rfl]
        rw [Int64.sub_eq_add_neg, Int64.sub_eq_add_neg, Int64.add_assoc, Int64.add_assoc, Int64.add_comm v.toInt64]
      · rw [if_neg q1, if_neg q1]
  obtain ⟨Dq, sq, jq, hq2, hq6⟩ := sA
  have s1 := sq.shr (q := p) (by omega) (g := g)
  have j1 := jq.shr (g := g)
  have s2 : AL a e f i b (kSh1 (kChg (rd μ (X + 1)) u (-v).toInt64) (nI x) v (nI w) p) (pSh2 (μ (M + 1)) (nI x) u v (nI w) p) := by
    unfold kSh1
    rw [kL, if_pos (c_in hx (by omega)), zx]
    dsimp only
    exact AL.dx hJ.2.1 (s1.put (k := 185 + x) (v := shRow (kChg (rd μ (X + 1)) u (-v).toInt64) g p (185 + x) + v.toInt64) (w := shRow Dq g p (185 + x) + v.toInt64) (by omega) (by omega) (by rw [s1.g (by unfold Live; omega)])) fun j _ => hq2 j
  have j2 : J (23 * (μ (M + 1) 6).toInt.toNat + k + 1 + 1) a e f i b p (pSh2 (μ (M + 1)) (nI x) u v (nI w) p) := by
    have := j1.full (k := 185 + x) (v := shRow Dq g p (185 + x) + v.toInt64) (jB_Np hx (by omega))
    rwa [← (funext hq2 : pSh2 (μ (M + 1)) (nI x) u v (nI w) p = _)] at this
  have e6 : pSh2 (μ (M + 1)) (nI x) u v (nI w) p 6 = μ (M + 1) 6 := by
    rw [hq2, sv_get, if_neg (by omega)]
    unfold shRow
    rw [if_neg (by omega)]
    exact hq6
  have eO : kShO (kChg (rd μ (X + 1)) u (-v).toInt64) v (nI w) p = if nI w &&& 1 = 0 then 0 else shQ v (bitc (nI w)) (v - v / bitc (nI w) * bitc (nI w)) := by
    unfold kShO
    rw [kL]
  have eP : (pSh0 (μ (M + 1)) (nI x) v (nI w) p).2.2 = (if nI w &&& 1 = 0 then 0 else shQ v (bitc (nI w)) (v - v / bitc (nI w) * bitc (nI w))).toInt64 := by
    unfold pSh0
    rw [pL]
  unfold kSh at tc
  unfold pSh3 at tm
  rw [eP] at tm
  rw [eO] at tc
  by_cases q : nI w &&& 1 = 0
  · rw [if_pos q, if_pos (show (0 : Int32) ≤ 0 by decide)] at tc
    rw [if_pos q, if_pos q] at tm
    exact lf_act hk hX hI hH ⟨a, e, f, i, b, p, by rw [e6]; exact j2, s2, by rw [e6]; exact hd⟩ tc fun μ1 n s h6 => tm μ1 n s h6
  · obtain ⟨z, hz, rfl⟩ := inR_n (c := e) (by omega) hJ.c1 (d3.resolve_left q)
    have zz : (nI z).toNatClampNeg = z := nI_clamp (by omega)
    rw [if_neg q, if_neg (shQ_pos hv ⟨b1, b2⟩), if_pos (show _ from (by rw [s2.c1 j2]; exact c_in hz (by omega) : 0 ≤ nI z ∧ nI z < (kSh1 (kChg (rd μ (X + 1)) u (-v).toInt64) (nI x) v (nI w) p 1).toInt32)), zz] at tc
    rw [if_neg q, if_neg q, zz] at tm
    have s3 := s2.tak j2 hz (v := (shQ v (bitc (nI w)) (v - v / bitc (nI w) * bitc (nI w))).toInt64) rfl
    have j3 := j2.tak hz (v := (shQ v (bitc (nI w)) (v - v / bitc (nI w) * bitc (nI w))).toInt64)
    have e7 : pTak (pSh2 (μ (M + 1)) (nI x) u v (nI w) p) z (shQ v (bitc (nI w)) (v - v / bitc (nI w) * bitc (nI w))).toInt64 6 = μ (M + 1) 6 := by
      rw [← e6]
      unfold pTak
      rw [pCvE_o (fun f => by omega) (by omega), sv_get, if_neg (by omega), sv_get, if_neg (by omega)]
    exact lf_act hk hX hI hH ⟨a, e, f, i, b, p, by rw [e7]; exact j3, s3, by rw [e7]; exact hd⟩ tc fun μ1 n s h6 => tm μ1 n s h6
end OPX
