/-! ===== Relation of the rows, 3: bills, incomes, purchases ===== -/
section REL3
variable {N a e f i b p : Nat} {C D : Row} {k : Nat} {v w : Int64}
theorem lgQ_8 {D E : Row} (h : E 8 = D 8) : lgQ E = lgQ D := by unfold lgQ; rw [h]
theorem AL.payB (hJ : J N a e f i b p D) (h : AL a e f i b C D) {q : Nat} (hq : q < b) (hN : N + 1 < 2 ^ 20) : AL a e f i b (kPayB C q) (pBl D q) := by
  obtain ⟨x, hx, hx2⟩ := hJ.ba hq
  obtain ⟨u, hu, hu2⟩ := hJ.be hq
  have ha := hJ.2.1.1
  have he := hJ.2.1.2.1
  have hi := hJ.2.1.2.2.2.2.1
  have h12 : q < 12 := by omega
  have hm := hJ.bm h12
  have hn := hJ.bn h12
  have hv := hJ.bv h12
  have hN0 := hJ.1
  have c0 : C (125 + 5 * q) = D (125 + 5 * q) := h.g (lv_b0 hq)
  have c1 : C (125 + 5 * q + 1) = D (125 + 5 * q + 1) := h.g (lv_b hq (by decide))
  have c2 : C (125 + 5 * q + 2) = D (125 + 5 * q + 2) := h.g (lv_b hq (by decide))
  unfold kPayB pBl pBil
  rw [acB_of hx2 (by omega), enB_of hu2 (by omega)]
  have s1 : AL a e f i b (kPayB1 C q) (sv D (9 + x) (D (9 + x) - D (125 + 5 * q + 2))) := by
    unfold kPayB1
    rw [c1, c2, hx2, i64_32, ← i_sub]
    exact h.chg hJ hx (g_neg (by omega))
  have j1 : J (N + 1) a e f i b p (sv D (9 + x) (D (9 + x) - D (125 + 5 * q + 2))) := hJ.acs (by omega) (by omega) hN
  have k0 : kPayB1 C q (125 + 5 * q) = (nI u).toInt64 := by
    rw [s1.g (lv_b0 hq), sv_get, if_neg (by omega), hu2]
  have k2 : kPayB1 C q (125 + 5 * q + 2) = D (125 + 5 * q + 2) := by
    rw [s1.g (lv_b hq (by decide)), sv_get, if_neg (by omega)]
  have s2 : AL a e f i b (kSpend (kPayB1 C q) u (kPayB1 C q (125 + 5 * q + 2)).toInt32.toInt64) (pSpe D u x (D (125 + 5 * q + 2))) := s1.tak j1 hu (by rw [k2, i64_32r (by omega) (by omega)])
  have j2 : J (N + 1) a e f i b p (pSpe D u x (D (125 + 5 * q + 2))) := j1.tak hu
  have x2 : ∀ k, 73 ≤ k → pSpe D u x (D (125 + 5 * q + 2)) k = D k := fun k hk => pSpe_x hJ.out hu hk (by omega)
  have x8 : pSpe D u x (D (125 + 5 * q + 2)) 8 = D 8 := pSpe_o (fun f => by omega) (by omega) (by omega) (by omega)
  have x6 : pSpe D u x (D (125 + 5 * q + 2)) 6 = D 6 := pSpe_o (fun f => by omega) (by omega) (by omega) (by omega)
  unfold kPayB2
  rw [k0, i64_32, if_pos (by rw [s1.c1 j1]; exact c_in hu (by omega)), nI_clamp (by omega)]
  generalize kSpend (kPayB1 C q) u (kPayB1 C q (125 + 5 * q + 2)).toInt32.toInt64 = S at s2 ⊢
  generalize pSpe D u x (D (125 + 5 * q + 2)) = E at s2 j2 x2 x8 x6 ⊢
  dsimp only
  have s3 := s2.log j2 (K := 1) (z := nI q) (x := E (125 + 5 * q + 2)) (u := mx 0 (-(E (13 + 6 * u)))) (s2.d6 j2).2
  rw [lgQ_8 x8] at s3
  unfold pBil2
  rw [pLg_sv (by omega) (by omega) (by omega)]
  have g1 : (S (125 + 5 * q + 2)).toInt32.toInt64 = E (125 + 5 * q + 2) := by
    rw [s2.g (lv_b hq (by decide)), x2 _ (by omega), i64_32r (by omega) (by omega)]
  have g2 : S (13 + 6 * u) = E (13 + 6 * u) := s2.g (lv_e0 hu)
  rw [sv_get, if_neg (show ¬ 125 + 5 * q + 2 = 125 + 5 * q + 3 by omega), sv_get, if_neg (show ¬ 13 + 6 * u = 125 + 5 * q + 3 by omega), g1, g2]
  refine s3.put (by omega) (by omega) ?_
  rw [s3.g (lv_b hq (by decide)), s3.g (lv_b hq (by decide)), pLog_lo (by omega) (by omega), pLog_lo (by omega) (by omega), x2 _ (by omega), x2 _ (by omega)]
  exact fol_e (by omega) hv
theorem AL.inc (hJ : J N a e f i b p D) (h : AL a e f i b C D) {q : Nat} (hq : q < i) (hN : N + 1 < 2 ^ 20) : AL a e f i b (kInc C q) (pInc D q) := by
  obtain ⟨x, hx, hx2⟩ := hJ.iac hq
  have ha := hJ.2.1.1
  have hi := hJ.2.1.2.2.2.1
  have h4 : q < 4 := by omega
  have hm := hJ.im h4
  have hn := hJ.inx h4
  have hv := hJ.iev h4
  have hN0 := hJ.1
  have c0 : C (109 + 4 * q) = D (109 + 4 * q) := h.g (lv_i0 hq)
  have c1 : C (109 + 4 * q + 1) = D (109 + 4 * q + 1) := h.g (lv_i hq (by decide))
  have jj := hJ.inc hq hN
  unfold kInc kInc3 pInc
  unfold pInc at jj
  rw [acI_of hx2 (by omega)] at jj ⊢
  have s1 : AL a e f i b (kChg C (C (109 + 4 * q)).toInt32 (C (109 + 4 * q + 1)).toInt32.toInt64) (sv D (9 + x) (D (9 + x) + D (109 + 4 * q + 1))) := by
    rw [c0, hx2, i64_32, c1]
    exact h.chg hJ hx (i64_32r (by omega) (by omega))
  have j1 : J (N + 1) a e f i b p (sv D (9 + x) (D (9 + x) + D (109 + 4 * q + 1))) := hJ.acc (by omega) (by omega) hN
  generalize kChg C (C (109 + 4 * q)).toInt32 (C (109 + 4 * q + 1)).toInt32.toInt64 = C1 at s1 ⊢
  dsimp only
  unfold pCom1
  have e1 : sv D (9 + x) (D (9 + x) + D (109 + 4 * q + 1)) (109 + 4 * q + 1) = D (109 + 4 * q + 1) := by rw [sv_get, if_neg (by omega)]
  have s2 : AL a e f i b (sv C1 7 (C1 7 + (C1 (109 + 4 * q + 1)).toInt32.toInt64)) (sv (sv D (9 + x) (D (9 + x) + D (109 + 4 * q + 1))) 7 (sv D (9 + x) (D (9 + x) + D (109 + 4 * q + 1)) 7 + D (109 + 4 * q + 1))) := by
    refine s1.put (by omega) (by omega) ?_
    rw [s1.g (lv_8 (by omega)), s1.g (lv_i hq (by decide)), e1, i64_32r (by omega) (by omega)]
  have j2 : J (N + 1) a e f i b p (sv (sv D (9 + x) (D (9 + x) + D (109 + 4 * q + 1))) 7 (sv D (9 + x) (D (9 + x) + D (109 + 4 * q + 1)) 7 + D (109 + 4 * q + 1))) := j1.full jB_7
  have o2 : ∀ k, k ≠ 7 → k ≠ 9 + x → sv (sv D (9 + x) (D (9 + x) + D (109 + 4 * q + 1))) 7 (sv D (9 + x) (D (9 + x) + D (109 + 4 * q + 1)) 7 + D (109 + 4 * q + 1)) k = D k := fun k h1 h2 => by rw [sv_get, if_neg h1, sv_get, if_neg h2]
  generalize sv C1 7 (C1 7 + (C1 (109 + 4 * q + 1)).toInt32.toInt64) = C2 at s2 ⊢
  generalize sv (sv D (9 + x) (D (9 + x) + D (109 + 4 * q + 1))) 7 (sv D (9 + x) (D (9 + x) + D (109 + 4 * q + 1)) 7 + D (109 + 4 * q + 1)) = E at s2 j2 o2 ⊢
  have s3 : AL a e f i b (sv C2 (109 + 4 * q + 2) (fol (C2 (109 + 4 * q + 2)).toInt32 (C2 (109 + 4 * q + 3)).toInt32).toInt64) (pCom2 E q) := by
    unfold pCom2
    refine s2.put (by omega) (by omega) ?_
    rw [s2.g (lv_i hq (by decide)), s2.g (lv_i hq (by decide)), o2 _ (by omega) (by omega), o2 _ (by omega) (by omega)]
    exact fol_e (by omega) hv
  have j3 : J (N + 1) a e f i b p (pCom2 E q) := by
    unfold pCom2
    refine j2.put ?_
    rw [o2 _ (by omega) (by omega), o2 _ (by omega) (by omega), jB_I h4 (by decide)]
    simp only [Nat.reduceEqDiff, if_false, if_true]
    exact nxt_b hn hv hN0.2
  have o3 : ∀ k, k ≠ 7 → k ≠ 9 + x → k ≠ 109 + 4 * q + 2 → pCom2 E q k = D k := fun k h1 h2 h3 => by unfold pCom2; rw [sv_get, if_neg h3]; exact o2 k h1 h2
  generalize sv C2 (109 + 4 * q + 2) (fol (C2 (109 + 4 * q + 2)).toInt32 (C2 (109 + 4 * q + 3)).toInt32).toInt64 = C3 at s3 ⊢
  generalize pCom2 E q = H at s3 j3 o3 ⊢
  have s4 := s3.log j3 (K := 0) (z := nI q) (x := D (109 + 4 * q + 1)) (u := 0) (s3.d6 j3).2
  rw [lgQ_8 (o3 8 (by omega) (by omega) (by omega))] at s4
  have g1 : (C3 (109 + 4 * q + 1)).toInt32.toInt64 = D (109 + 4 * q + 1) := by
    rw [s3.g (lv_i hq (by decide)), o3 _ (by omega) (by omega) (by omega), i64_32r (by omega) (by omega)]
  rw [g1]
  exact s4
end REL3
