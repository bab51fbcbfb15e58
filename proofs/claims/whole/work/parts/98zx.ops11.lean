/-! ===== A call of the class beside the model's, 11: texts and loads ===== -/
section OPT
variable {G : qG} {y : Nat → Option qSh} {μ ν : qMu} {X M k n s N a e f i b p e0 c L : Nat} {C D : Row} {cd : Nat → Int64} {T : QF} {P : PS} {st : Int32}
/-- the place of the statement is set with an error only -/
def KX5 (v : Int32) (P : PS) : Prop := P.2.1 = 0 → P.2.2.2 = v
section KX5S
variable {v st : Int32} {P : PS} {T : Nat → Int64} {L : Nat} {lo hi q m a : Int32} {D : Row}
theorem KX5.mk' {j : Nat} (h : KX5 v P) : KX5 v (j, P.2) := h
theorem KX5.fl (h : KX5 v P) (hq : q ≠ 0) : KX5 v (flP st P q a) := by
  unfold flP
  split
  · exact fun r => absurd r hq
  · exact h
theorem KX5.sk (h : KX5 v P) : KX5 v (skP T L P) := h
theorem KX5.wd (h : KX5 v P) : KX5 v (wdP T L P) := h
theorem KX5.nm (h : KX5 v P) : KX5 v (nmP T L st P lo hi) := by
  unfold nmP
  split
  · split
    · exact h
    · rename_i r
      exact KX5.fl (P := (_, P.2)) h r
  · exact h
theorem KX5.ro (h : KX5 v P) : KX5 v (roP st P q m a) := by
  unfold roP
  split
  · exact h
  · exact h.fl (by decide)
theorem KX5.ou (h : KX5 v P) : KX5 v (ouP T L st P q) := by
  unfold ouP
  split
  · exact h.sk.wd
  · refine KX5.nm ?_
    unfold ouP1
    split
    · exact h.sk.wd
    · exact h.sk.wd.fl (by decide)
theorem KX5.se (h : KX5 v P) : KX5 v (seP T L st P) := by
  unfold seP
  split
  · exact h.sk
  · split
    · exact h
    · exact h.sk.fl (by decide)
theorem KX5.stm (h : KX5 v P) : KX5 v (stP T L st P D) := by
  have hw : KX5 v (wdP T L (skP T L P)) := h.sk.wd
  unfold stP
  split
  · unfold acP; exact hw.ro.nm
  split
  · unfold enP3 enP2 enP1 enP0; exact hw.ro.nm.nm.nm.ou
  split
  · unfold fuP3 fuP2 fuP1 fuP0; exact hw.ro.nm.nm.nm.nm
  split
  · unfold icP3 icP2 icP1 icP0; exact hw.ro.nm.nm.nm.nm
  split
  · unfold biP4 biP3 biP2 biP1 biP0; exact hw.ro.nm.nm.nm.nm.nm
  split
  · unfold peP; exact hw.nm
  · exact hw.fl (by decide)
theorem KX5.rd : ∀ k i (P : PS) (D : Row), KX5 v P → KX5 v (rdL T L k i P D).1
  | 0, _, _, _, h => h
  | k + 1, i, P, D, h => by
    rw [rdL]
    split
    · exact h.stm.se
    · exact KX5.rd k (i + 1) _ _ h.stm.se
theorem stD_6 : stD T L st P D 6 = D 6 := by
  unfold stD
  split
  · unfold acD; split
    · unfold kDA; simp only [sv_get]; simp only [show (6 = 0) = False by simp, show (6 = 7) = False by simp, show ∀ q, (6 = 9 + q) = False by intro q; simp; omega, if_false]
    · rfl
  split
  · unfold enD; split
    · unfold kDE kDE0; simp only [sv_get]; simp only [show (6 = 1) = False by simp, show ∀ q, (6 = 13 + q) = False by intro q; simp; omega, show ∀ q r, (6 = 13 + q + r) = False by intro q r; simp; omega, if_false]
    · rfl
  split
  · unfold fuD; split
    · unfold kDF kDF0; simp only [sv_get]; simp only [show (6 = 2) = False by simp, show ∀ q, (6 = 73 + q) = False by intro q; simp; omega, show ∀ q r, (6 = 73 + q + r) = False by intro q r; simp; omega, if_false]
    · rfl
  split
  · unfold icD; split
    · unfold kDI kDI0; simp only [sv_get]; simp only [show (6 = 3) = False by simp, show ∀ q, (6 = 109 + q) = False by intro q; simp; omega, show ∀ q r, (6 = 109 + q + r) = False by intro q r; simp; omega, show ∀ q, (6 = 400 + q) = False by intro q; simp; omega, if_false]
    · rfl
  split
  · unfold biD; split
    · unfold kDB kDB0; simp only [sv_get]; simp only [show (6 = 4) = False by simp, show ∀ q, (6 = 125 + q) = False by intro q; simp; omega, show ∀ q r, (6 = 125 + q + r) = False by intro q r; simp; omega, if_false]
    · rfl
  split
  · unfold peD; split
    · rw [sv_get, if_neg (by decide)]
    · rfl
  · rfl
theorem rdL_6 : ∀ k i (P : PS) (D : Row), (rdL T L k i P D).2.1 6 = D 6
  | 0, _, _, _ => rfl
  | k + 1, i, P, D => by
    rw [rdL]
    split
    · exact stD_6
    · rw [rdL_6 k (i + 1) _ _, stD_6]
end KX5S
theorem kClr_6 {D : Row} : kClr D 6 = 0 := by
  unfold kClr
  simp only [kClrN, kClr0, sv_get, Nat.reduceAdd, Nat.reduceEqDiff, if_false, if_true]
theorem rS_rS {d : QF} : rS (rS d L st P) L st P = rS d L st P := by
  funext k
  unfold rS
  by_cases h2 : k = 2
  · simp only [h2, if_true]
  by_cases h3 : k = 3
  · simp only [h3, if_true]
  by_cases h4 : k = 4
  · simp only [h4, if_true]
  by_cases h5 : k = 5
  · simp only [h5, if_true]
  by_cases h6 : k = 6
  · simp only [h6, if_true]
  by_cases h7 : k = 7
  · simp only [h7, if_true]
  simp only [h2, h3, h4, h5, h6, h7, if_false]
theorem rm_self (h : μ (X + 42) = rS (μ (X + 42)) L st P) : RM μ (X + 42) L st P (μ (X + 43)) (rd μ (X + 44)) = μ := by
  unfold RM
  rw [← h]
  have e1 : stc μ (X + 42 + 1) (μ (X + 43)) = μ := stc_self μ (X + 43)
  rw [e1, stc_self]
  exact wr_rd
theorem Iv.txt (h : Iv G y X M k μ) (hXM : X + 465 ≤ M) (hl : ∀ a, a < X + 415 → (a < X + 42 ∨ X + 85 ≤ a) → ν a = μ a) (h1 : ν (M + 1) = μ (M + 1)) (h4 : ν (M + 4) = μ (M + 4)) (h6 : ν M 6 = μ M 6) (hT : TxR ν X M) : Iv G y X M k ν := by
  obtain ⟨h0, ⟨e, c, q1, q2, q3⟩, -, h5⟩ := h
  have er : ∀ b, b + 41 ≤ X + 415 → (b + 41 ≤ X + 42 ∨ X + 85 ≤ b) → rd ν b = rd μ b := fun b hb hb2 => by
    funext i
    have := bkInv_lt i
    show ν (b + (bkInv i).1) (bkInv i).2 = μ (b + (bkInv i).1) (bkInv i).2
    rw [hl _ (by omega) (by omega)]
  have q1' := q1.2.1
  refine ⟨?_, ⟨e, c, ?_, ?_, fun j hj => ?_⟩, hT, ?_⟩
  · rw [er _ (by omega) (by omega), h1]; exact h0
  · unfold Hs at q1 ⊢
    rw [hl (X + 85) (by omega) (by omega)]; exact q1
  · rw [h6]; exact q2
  · have : (e + 7 - j) % 8 < 8 := Nat.mod_lt _ (by decide)
    rw [er _ (by omega) (by omega), h4]; exact q3 j hj
  · exact h5.low fun a ha => hl a (by omega) (by omega)
theorem RM_at {r q : Nat} {D : Row} : (q < r ∨ r + 43 ≤ q → RM μ r L st P T D q = μ q) ∧ RM μ r L st P T D r = rS (μ r) L st P ∧ RM μ r L st P T D (r + 1) = T := by
  unfold RM
  refine ⟨fun h => ?_, ?_, ?_⟩
  · rw [wr_out (by omega), stc_ne (by omega), stc_ne (by omega)]
  · rw [wr_out (by omega), stc_eq]
  · rw [wr_out (by omega), stc_ne (by omega), stc_eq]
theorem Lx.stc {q : Nat} {d : Nat → Int64} (h : Lx M μ ν) : Lx M (stc μ q d) (stc ν q d) := fun r h1 h2 => by
  by_cases hq : r = q
  · rw [hq, stc_eq, stc_eq]
  · rw [stc_ne hq, stc_ne hq]; exact h r h1 h2
theorem Lx.mpm {q : Nat} {B : QF} (h : Lx M μ ν) : Lx M (MPm μ M q B) (MPm ν M q B) := by
  unfold MPm
  rw [h.eqM]
  exact h.stc.stc
theorem op_17 (hS : SH y X M) {v : Int64} : OpI G y X M cd0 0 17 [.long v] 158 [.long v] := by
  intro k μ n s hk hI
  obtain ⟨hE, hF, hDL, hM, hMA, hX⟩ := hS
  have hI' := hI
  obtain ⟨-, -, ⟨L, st, P, bg, t1, t2, t3, t4, t5, t6, t7, t8⟩, -⟩ := hI'
  have tc := t17 (G := G) (μ := μ) (n := n) (s := s) (st := st) (P := P) (T := μ (X + 43)) (D := rd μ (X + 44)) hE t1 (v := v)
  rw [rm_self t2] at tc
  by_cases hl : 900 < L + tkn v 8
  · refine lf_same hk hX hI (v := .int (-2)) ?_ fun μ1 n s hx => ?_
    · rw [wr_rd]; exact tc.trans (if_pos hl)
    · have := (t158 (G := G) (y := y) (μ := stc μ1 (M + 1) (μ (M + 1))) (n := n) (s := s) hM hMA t1 (by rw [stc_ne (by omega), hx.eqM]; exact t3) (v := v)).trans (if_pos hl)
      rw [stc_ne (show M ≠ M + 1 by omega)] at this
      exact this
  replace tc := tc.trans (if_neg hl)
  obtain ⟨r1, r2⟩ := tk_rel (v := v) t4 (by omega) 8 (Nat.le_refl _)
  rw [r1] at tc
  obtain ⟨m1, m2, m3⟩ := RM_at (μ := μ) (r := X + 42) (L := L + tkn v 8) (st := st) (P := P) (T := (tkS v L (μ (X + 43)) 8).2) (q := M) (D := rd μ (X + 44))
  refine Or.inr ⟨_, _, tc, fun a ha => (RM_at (μ := μ) (r := X + 42)).1 (by omega), rfl, fun μ1 n s hx => ?_⟩
  have hi : ∀ q, M ≤ q → RM μ (X + 42) (L + tkn v 8) st P (tkS v L (μ (X + 43)) 8).2 (rd μ (X + 44)) q = μ q := fun q hq => (RM_at (μ := μ) (r := X + 42)).1 (by omega)
  have tm := (t158 (G := G) (y := y) (μ := μ1) (n := n) (s := s) hM hMA t1 (by rw [hx.eqM, hi M (Nat.le_refl _)]; exact t3) (v := v)).trans (if_neg hl)
  rw [hx (M + 7) (by omega) (by omega), hi (M + 7) (by omega)] at tm
  refine ⟨_, ?_, ?_, tm, ?_⟩
  · refine Iv.lx (X := X) ?_ hX hx.mpm
    refine (hI.txt (ν := MPm (RM μ (X + 42) (L + tkn v 8) st P (tkS v L (μ (X + 43)) 8).2 (rd μ (X + 44))) M (L + tkn v 8) (tkB v L (μ (M + 7)) 8)) hX (fun q h1 h2 => ?_) ?_ ?_ ?_ ⟨L + tkn v 8, st, P, bg, by omega, ?_, ?_, ?_, ?_, ?_, ?_, ?_⟩).mono (Nat.le_succ k) (by omega)
    · unfold MPm
      rw [stc_ne (by omega), stc_ne (by omega)]
      exact (RM_at (μ := μ) (r := X + 42)).1 (by omega)
    · unfold MPm
      rw [stc_ne (by omega), stc_ne (by omega), hi _ (by omega)]
    · unfold MPm
      rw [stc_ne (by omega), stc_ne (by omega), hi _ (by omega)]
    · unfold MPm
      rw [stc_ne (by omega), stc_eq, sv_get, if_neg (by decide), sv_get, if_neg (by decide), hi _ (Nat.le_refl _)]
    · unfold MPm
      rw [stc_ne (by omega), stc_ne (by omega), m2, rS_rS]
    · unfold MPm
      rw [stc_ne (by omega), stc_eq, sv_get, if_pos rfl]
    · unfold MPm
      rw [stc_eq, stc_ne (by omega), stc_ne (by omega), show X + 43 = X + 42 + 1 by omega, m3]
      exact r2
    · unfold MPm
      rw [stc_ne (by omega), stc_eq, sv_get, if_neg (by decide), sv_get, if_neg (by decide), hi _ (Nat.le_refl _)]; exact t5
    · unfold MPm
      rw [stc_ne (by omega), stc_eq, sv_get, if_neg (by decide), sv_get, if_neg (by decide), hi _ (Nat.le_refl _)]; exact t6
    · unfold MPm
      rw [stc_ne (by omega), stc_eq, sv_get, if_neg (by decide), sv_get, if_neg (by decide), hi _ (Nat.le_refl _)]; exact t7
    · unfold MPm
      rw [stc_ne (by omega), stc_eq, sv_get, if_neg (by decide), sv_get, if_neg (by decide), hi _ (Nat.le_refl _)]; exact t8
  · intro q hq
    unfold MPm
    rw [stc_ne (by omega), stc_ne (by omega)]
  · unfold MPm
    rw [stc_ne (by omega), stc_eq, sv_get, if_neg (by decide), sv_get, if_pos rfl]
theorem RP.pr {E D' : Row} (h : RP a e f i b p D E) (h6 : D 6 = 0) (hk : k ≤ 1000) (hD : R391 D' E) : PR k D D' := by
  obtain ⟨hJ, hA, -, h8, h1, h2⟩ := h
  have e6 : E 6 = 0 := by rw [← hA 6 (by unfold Live; omega)]; exact h6
  have hA' : AL a e f i b D E := ⟨hA, 0, by omega, h8, by rw [h1]; rfl, by rw [h2]; rfl, fun q hq => by omega⟩
  have : PR k D E := ⟨a, e, f, i, b, p, hJ.mono (by omega) (by rw [e6]; show 23 * (0 : Int64).toInt.toNat + k + 1 < 2 ^ 20; rw [Z0]; omega), hA', by rw [e6, Z0]; omega⟩
  exact this.dx hD
theorem op_19 (hS : SH y X M) : OpI G y X M cd0 0 19 [] 160 [] := by
  intro k μ n s hk hI
  obtain ⟨hE, hF, hDL, hM, hMA, hX⟩ := hS
  have hI' := hI
  obtain ⟨h0, ⟨e0, c0, hH⟩, ⟨L, st, P, bg, t1, t2, t3, t4, t5, t6, t7, t8⟩, hTX⟩ := hI'
  have tc := t19 (G := G) (μ := μ) (n := n) (s := s) (C := rd μ (X + 1)) (st := st) (P := P) (T := μ (X + 43)) (D := rd μ (X + 44)) hE t1 hTX
  rw [rm_self t2, wr_rd] at tc
  unfold rdA at tc
  have hK : KX5 (-1) (rdL (μ (X + 43)) L 901 0 (0, 0, P.2.2.1, -1) (kClr (rd μ (X + 44)))).1 := KX5.rd 901 0 _ _ fun _ => rfl
  have hR6 : (rdL (μ (X + 43)) L 901 0 (0, 0, P.2.2.1, -1) (kClr (rd μ (X + 44)))).2.1 6 = 0 := by
    rw [rdL_6]
    exact kClr_6
  have tm := fun (μ1 : qMu) (n s : Nat) (hT : HB (μ1 (M + 7)) (μ (X + 43)) L) (hX' : TX G y μ1 M) (h9 : μ1 M 9 = (nI L).toInt64) (h11 : μ1 M 11 = (nI bg).toInt64) (h13 : μ1 M 13 = P.2.2.1.toInt64) => t160 (G := G) (μ := μ1) (n := n) (s := s) (D := rd μ (X + 44)) (D0 := μ (M + 1)) (x4 := -1) hM hMA hT t1 hX' h9 h11 h13
  generalize rdL (μ (X + 43)) L 901 0 (0, 0, P.2.2.1, -1) (kClr (rd μ (X + 44))) = A at *
  -- what the class leaves
  have up : ∀ μ1 : qMu, TX G y μ1 X → TX G y μ1 M := fun μ1 h q hq => ⟨by have := (h q hq).1; omega, (h q hq).2⟩
  have lq : ∀ q, (q < X + 42 ∨ X + 85 ≤ q) → ldM μ X A (μ (X + 43)) q = μ q := fun q hq => by
    unfold ldM
    exact (RM_at (μ := μ) (r := X + 42)).1 (by omega)
  have l42 : ldM μ X A (μ (X + 43)) (X + 42) = rS (μ (X + 42)) 0 A.2.2 A.1 := by
    unfold ldM
    exact (RM_at (μ := μ) (r := X + 42) (q := 0)).2.1
  by_cases h : A.1.2.1 = 0
  · replace tc := tc.trans (if_pos h)
    have hC : PR (k + 1) A.2.1 A.2.1 ∨ True := Or.inr trivial
    -- the memory that the class leaves
    obtain ⟨ν, hν⟩ : ∃ ν, ν = wr (stc (ldM μ X A (μ (X + 43))) (X + 85) (sv (μ (X + 85)) 1 0)) (X + 1) (ldC μ X A (μ (X + 43)) (rd μ (X + 1))) := ⟨_, rfl⟩
    rw [← hν] at tc
    have nq : ∀ q, (q < X + 1 ∨ (X + 42 ≤ q ∧ q ≠ X + 85)) → ν q = ldM μ X A (μ (X + 43)) q := fun q hq => by
      rw [hν, wr_out (by omega), stc_ne (by omega)]
    have nhi : ∀ q, (q < X + 1 ∨ X + 86 ≤ q) → ν q = μ q := fun q hq => by rw [nq q (by omega), lq q (by omega)]
    have nTX : TX G y ν X := hTX.low fun q hq => nhi q (by omega)
    refine Or.inr ⟨_, ν, tc, fun a ha => nhi a (by omega), rfl, fun μ1 n s hx => ?_⟩
    have nTX1 : TX G y μ1 X := nTX.low fun q hq => hx q (by omega) (by omega)
    obtain ⟨d, E', D', tm, d7, d9, ⟨bg', d11⟩, d13, d15, d16, dd⟩ := tm μ1 n s (by rw [hx (M + 7) (by omega) (by omega), nhi _ (by omega)]; exact t4) (up μ1 nTX1) (by rw [hx.eqM, nhi _ (by omega)]; exact t3) (by rw [hx.eqM, nhi _ (by omega)]; exact t5) (by rw [hx.eqM, nhi _ (by omega)]; exact t6)
    rw [if_pos h] at d16 dd tm
    obtain ⟨d6, a, e, f, i, b, p, hRP, hD'⟩ := dd
    rw [hx.self1 (nhi (M + 1) (by omega)).symm] at tm
    have hPR : PR (k + 1) A.2.1 D' := hRP.pr (k := k + 1) hR6 (by omega) hD'
    have hPR2 : PR (k + 1) (ldC μ X A (μ (X + 43)) (rd μ (X + 1))) D' := by
      unfold ldC
      refine (hPR.vx fun q hq => ?_).cpy
      unfold ldM RM
      exact rd_wr hq
    have hPR3 : PR (k + 1) (rd ν (X + 1)) D' := hPR2.vx fun q hq => by rw [hν]; exact rd_wr hq
    have ev : (ldC μ X A (μ (X + 43)) (rd μ (X + 1)) 1).toInt32 = (D' 1).toInt32 := by
      obtain ⟨a, e, f, i, b, p, -, hA, -⟩ := hPR2
      rw [hA.g (lv_8 (by decide))]
    rw [ev]
    refine ⟨_, Iv.lx (X := X) ?_ hX (hx.stc.stc.stc), ?_, tm, ?_⟩
    · refine ⟨?_, ⟨e0, 0, ?_, ?_, fun j hj => absurd hj (Nat.not_lt_zero _)⟩, ⟨0, A.2.2, A.1, bg', by omega, ?_, ?_, fun j hj => absurd hj (Nat.not_lt_zero _), ?_, ?_, ?_, ?_⟩, ?_⟩
      · rw [rd_stc_out (by omega), rd_stc_out (by omega), rd_stc_out (by omega), stc_eq]
        exact hPR3
      · unfold Hs
        rw [stc_ne (by omega), stc_ne (by omega), stc_ne (by omega), hν, wr_out (by omega), stc_eq, sv_get, if_neg (by decide), sv_get, if_pos rfl]
        exact ⟨hH.1.1, hH.1.2.1, rfl, by omega⟩
      · rw [stc_ne (by omega), stc_ne (by omega), stc_eq, d6]; rfl
      · rw [stc_ne (by omega), stc_ne (by omega), stc_ne (by omega), nq _ (by omega), l42, rS_rS]
      · rw [stc_ne (by omega), stc_ne (by omega), stc_eq, d9]; rfl
      · rw [stc_ne (by omega), stc_ne (by omega), stc_eq, d11]
      · rw [stc_ne (by omega), stc_ne (by omega), stc_eq, d13]
      · rw [stc_ne (by omega), stc_ne (by omega), stc_eq, d15, i64_32]
      · rw [stc_ne (by omega), stc_ne (by omega), stc_eq, d16, hK h]; rfl
      · exact nTX.low fun q hq => by rw [stc_ne (by omega), stc_ne (by omega), stc_ne (by omega)]
    · intro q hq
      rw [stc_ne (by omega), stc_ne (by omega), stc_ne (by omega)]
    · rw [stc_ne (by omega), stc_ne (by omega), stc_eq, d7]
  · replace tc := tc.trans (if_neg h)
    obtain ⟨ν, hν⟩ : ∃ ν, ν = wr (ldM μ X A (μ (X + 43))) (X + 1) (rd μ (X + 1)) := ⟨_, rfl⟩
    have e3 : ν = ldM μ X A (μ (X + 43)) := by
      rw [hν]
      have : rd μ (X + 1) = rd (ldM μ X A (μ (X + 43))) (X + 1) := by
        funext i
        have := bkInv_lt i
        show μ (X + 1 + (bkInv i).1) (bkInv i).2 = ldM μ X A (μ (X + 43)) (X + 1 + (bkInv i).1) (bkInv i).2
        rw [lq _ (by omega)]
      rw [this, wr_rd]
    rw [← hν] at tc
    have nhi : ∀ q, (q < X + 42 ∨ X + 85 ≤ q) → ν q = μ q := fun q hq => by rw [e3, lq q hq]
    have nTX : TX G y ν X := hTX.low fun q hq => nhi q (by omega)
    refine Or.inr ⟨_, ν, tc, fun a ha => nhi a (by omega), rfl, fun μ1 n s hx => ?_⟩
    have nTX1 : TX G y μ1 X := nTX.low fun q hq => hx q (by omega) (by omega)
    obtain ⟨d, E', D', tm, d7, d9, ⟨bg', d11⟩, d13, d15, d16, dd⟩ := tm μ1 n s (by rw [hx (M + 7) (by omega) (by omega), nhi _ (by omega)]; exact t4) (up μ1 nTX1) (by rw [hx.eqM, nhi _ (by omega)]; exact t3) (by rw [hx.eqM, nhi _ (by omega)]; exact t5) (by rw [hx.eqM, nhi _ (by omega)]; exact t6)
    rw [if_neg h] at d16 dd tm
    obtain ⟨d6, rfl⟩ := dd
    rw [hx.self1 (nhi (M + 1) (by omega)).symm] at tm
    rw [hx.eqM] at d6
    refine ⟨_, Iv.lx (X := X) (μ := stc (stc (stc ν M d) (M + 2) E') (M + 1) (μ (M + 1))) ((hI.txt (ν := stc (stc (stc ν M d) (M + 2) E') (M + 1) (μ (M + 1))) hX (fun q h1 h2 => ?_) ?_ ?_ ?_ ⟨0, A.2.2, A.1, bg', by omega, ?_, ?_, fun j hj => absurd hj (Nat.not_lt_zero _), ?_, ?_, ?_, ?_⟩).mono (Nat.le_succ k) (by omega)) hX hx.stc.stc.stc, ?_, tm, ?_⟩
    · rw [stc_ne (by omega), stc_ne (by omega), stc_ne (by omega), nhi _ (by omega)]
    · rw [stc_eq]
    · rw [stc_ne (by omega), stc_ne (by omega), stc_ne (by omega), nhi _ (by omega)]
    · rw [stc_ne (by omega), stc_ne (by omega), stc_eq, d6, nhi _ (by omega)]
    · rw [stc_ne (by omega), stc_ne (by omega), stc_ne (by omega), e3, l42, rS_rS]
    · rw [stc_ne (by omega), stc_ne (by omega), stc_eq, d9]; rfl
    · rw [stc_ne (by omega), stc_ne (by omega), stc_eq, d11]
    · rw [stc_ne (by omega), stc_ne (by omega), stc_eq, d13]
    · rw [stc_ne (by omega), stc_ne (by omega), stc_eq, d15, i64_32]
    · rw [stc_ne (by omega), stc_ne (by omega), stc_eq, d16, i64_32]
    · intro q hq
      rw [stc_ne (by omega), stc_ne (by omega), stc_ne (by omega)]
    · rw [stc_ne (by omega), stc_ne (by omega), stc_eq, d7]
end OPT
