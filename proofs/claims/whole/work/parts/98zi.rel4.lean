/-! ===== Relation of the rows, 4: funds' purchases, the loops of a day ===== -/
section REL4
variable {N a e f i b p : Nat} {C D : Row} {k : Nat} {v w : Int64}
theorem p1_32 {x : Int64} (hx : 0 ≤ x.toInt ∧ x.toInt < 2 ^ 30) : (x.toInt32 + 1).toInt64 = x + 1 := by
  apply i64_ext
  have o : (1 : Int32).toInt = 1 := rfl
  have ex := to32 (x := x) (by omega) (by omega)
  rw [Int32.toInt_toInt64, Int32.toInt_add, ia (by rw [iv1]; omega) (by rw [iv1]; omega), ex, o, iv1, Int.bmod_def]
  omega
theorem fol_m1 {x v : Int64} (hx : -1 ≤ x.toInt ∧ x.toInt < 2 ^ 30) (hv : 0 ≤ v.toInt ∧ v.toInt ≤ 400) : (fol x.toInt32 v.toInt32 = -1) = (¬ 0 < v) := by
  have e := fol_e hx hv
  have hz : (v = 0) = (¬ 0 < v) := propext ⟨fun h => by rw [h]; decide, fun h => i64_ext (by rw [Int64.lt_iff_toInt_lt, iv0] at h; rw [iv0]; omega)⟩
  rw [← hz]
  refine propext ⟨fun h => ?_, fun h => ?_⟩
  · rw [h] at e
    refine Classical.byContradiction fun q => ?_
    rw [if_neg q] at e
    have e2 := congrArg Int64.toInt e
    have h0 : ¬ v.toInt = 0 := fun q2 => q (i64_ext q2)
    rw [ia (by omega) (by omega)] at e2
    have : ((-1 : Int32).toInt64).toInt = -1 := rfl
    omega
  · rw [if_pos h] at e
    have := congrArg Int64.toInt32 e
    rwa [i64_32] at this
theorem AL.payF (hJ : J N a e f i b p D) (h : AL a e f i b C D) {q : Nat} (hq : q < f) (hN : N + 1 < 2 ^ 20) : AL a e f i b (kPayF C q) (pFun D (lgQ D) q (acF D q)) := by
  obtain ⟨x, hx, hx2⟩ := hJ.fa hq
  have ha := hJ.2.1.1
  have hf := hJ.2.1.2.2.1
  have h6 : q < 6 := by omega
  have ht := hJ.ft h6
  have hp := hJ.fp h6
  have hn := hJ.fn h6
  have hg := hJ.fg h6
  have hN0 := hJ.1
  have c4 : C (73 + 6 * q + 4) = D (73 + 6 * q + 4) := h.g (lv_f hq (by decide))
  have c1 : C (73 + 6 * q + 1) = D (73 + 6 * q + 1) := h.g (lv_f hq (by decide))
  unfold pFun
  rw [acF_of hx2 (by omega)]
  unfold kPayF kPayF4
  dsimp only
  have s1 : AL a e f i b (kChg C (C (73 + 6 * q + 4)).toInt32 (-(C (73 + 6 * q + 1)).toInt32).toInt64) (pF1 D q x) := by
    unfold pF1
    rw [c4, c1, hx2, i64_32, ← i_sub]
    exact h.chg hJ hx (g_neg (by omega))
  have o1 : ∀ k, k ≠ 9 + x → pF1 D q x k = D k := fun k q1 => by unfold pF1; rw [sv_get, if_neg q1]
  generalize kChg C (C (73 + 6 * q + 4)).toInt32 (-(C (73 + 6 * q + 1)).toInt32).toInt64 = C1 at s1 ⊢
  have s2 : AL a e f i b (sv C1 (73 + 6 * q) (C1 (73 + 6 * q) - (C1 (73 + 6 * q + 1)).toInt32.toInt64)) (pF2 (pF1 D q x) q) := by
    unfold pF2
    refine s1.put (by omega) (by omega) ?_
    rw [s1.g (lv_f0 hq), s1.g (lv_f hq (by decide)), o1 (73 + 6 * q + 1) (by omega), i64_32r (by omega) (by omega)]
  have o2 : ∀ k, k ≠ 9 + x → k ≠ 73 + 6 * q → pF2 (pF1 D q x) q k = D k := fun k q1 q2 => by unfold pF2; rw [sv_get, if_neg q2, o1 _ q1]
  generalize sv C1 (73 + 6 * q) (C1 (73 + 6 * q) - (C1 (73 + 6 * q + 1)).toInt32.toInt64) = C2 at s2 ⊢
  generalize pF2 (pF1 D q x) q = E at s2 o2 ⊢
  have hgv : giv (C2 7) (-(C2 (73 + 6 * q))) = mn (mx 0 (-(E (73 + 6 * q)))) (mx 0 (E 7)) := by
    rw [s2.g (lv_8 (by omega)), s2.g (lv_f0 hq), giv_mn2]
  have s3 : AL a e f i b (sv C2 7 (C2 7 - giv (C2 7) (-(C2 (73 + 6 * q))))) (sv E 7 (E 7 - mn (mx 0 (-(E (73 + 6 * q)))) (mx 0 (E 7)))) := s2.put (by omega) (by omega) (by rw [hgv, s2.g (lv_8 (by omega))])
  have s4 : AL a e f i b (sv (sv C2 7 (C2 7 - giv (C2 7) (-(C2 (73 + 6 * q))))) (73 + 6 * q) (sv C2 7 (C2 7 - giv (C2 7) (-(C2 (73 + 6 * q)))) (73 + 6 * q) + giv (C2 7) (-(C2 (73 + 6 * q))))) (pCov E (73 + 6 * q) 7) := by
    unfold pCov pShf
    refine s3.put (by omega) (by omega) ?_
    rw [s3.g (lv_f0 hq), hgv]
  have o4 : ∀ k, k ≠ 9 + x → k ≠ 73 + 6 * q → k ≠ 7 → pCov E (73 + 6 * q) 7 k = D k := fun k q1 q2 q3 => by
    unfold pCov
    rw [pShf_o q3 q2, o2 _ q1 q2]
  generalize sv (sv C2 7 (C2 7 - giv (C2 7) (-(C2 (73 + 6 * q))))) (73 + 6 * q) (sv C2 7 (C2 7 - giv (C2 7) (-(C2 (73 + 6 * q)))) (73 + 6 * q) + giv (C2 7) (-(C2 (73 + 6 * q)))) = C4 at s4 ⊢
  generalize pCov E (73 + 6 * q) 7 = H at s4 o4 ⊢
  -- the log
  have hH6 : (C4 6).toInt32.toInt64 = H 6 := by
    have := hJ.d6
    rw [s4.g (lv_8 (by omega)), o4 6 (by omega) (by omega) (by omega), i64_32r (by omega) (by omega)]
  have hH8 : H 8 = D 8 := o4 8 (by omega) (by omega) (by omega)
  have g1 : (C4 (73 + 6 * q + 1)).toInt32.toInt64 = H (73 + 6 * q + 1) := by
    rw [s4.g (lv_f hq (by decide)), o4 _ (by omega) (by omega) (by omega), i64_32r (by omega) (by omega)]
  have g2 : C4 (73 + 6 * q) = H (73 + 6 * q) := s4.g (lv_f0 hq)
  unfold kPayF7
  dsimp only
  have s5 : AL a e f i b (kEnter C4 2 (C4 6).toInt32 (nI q) (C4 (73 + 6 * q + 1)).toInt32.toInt64 (mx 0 (-(C4 (73 + 6 * q))))) (pLog H (lgQ D) 2 (nI q) (H (73 + 6 * q + 1)) (mx 0 (-(H (73 + 6 * q))))) := by
    rw [g1, g2, ← lgQ_8 hH8]
    have := hJ.l8
    exact s4.log0 hJ.2.1 (by rw [hH8]; omega) hH6
  have o5 : ∀ k, k < 191 → k ≠ 8 → pLog H (lgQ D) 2 (nI q) (H (73 + 6 * q + 1)) (mx 0 (-(H (73 + 6 * q)))) k = H k := fun k q1 q2 => pLog_lo q1 q2
  have eM : pF5 (pF4 H q) (lgQ D) q = sv (pLog H (lgQ D) 2 (nI q) (H (73 + 6 * q + 1)) (mx 0 (-(H (73 + 6 * q))))) (73 + 6 * q + 5) (H (73 + 6 * q + 5) + 1) := by
    unfold pF5 pF4
    rw [pLg_sv (by omega) (by omega) (by omega), sv_get, if_neg (by omega), sv_get, if_neg (by omega)]
  rw [eM]
  generalize kEnter C4 2 (C4 6).toInt32 (nI q) (C4 (73 + 6 * q + 1)).toInt32.toInt64 (mx 0 (-(C4 (73 + 6 * q)))) = C5 at s5 ⊢
  generalize pLog H (lgQ D) 2 (nI q) (H (73 + 6 * q + 1)) (mx 0 (-(H (73 + 6 * q)))) = I at s5 o5 ⊢
  have n1 : ¬ 73 + 6 * q + 5 = 9 + x := by omega
  have s6 : AL a e f i b (sv C5 (73 + 6 * q + 5) ((C5 (73 + 6 * q + 5)).toInt32 + 1).toInt64) (sv I (73 + 6 * q + 5) (H (73 + 6 * q + 5) + 1)) := by
    refine s5.put (by omega) (by omega) ?_
    rw [s5.g (lv_f hq (by decide)), o5 _ (by omega) (by omega), o4 _ (by omega) (by omega) (by omega)]
    exact p1_32 (by omega)
  have o6 : ∀ k, k < 191 → k ≠ 8 → k ≠ 73 + 6 * q + 5 → sv I (73 + 6 * q + 5) (H (73 + 6 * q + 5) + 1) k = H k := fun k q1 q2 q3 => by rw [sv_get, if_neg q3]; exact o5 k q1 q2
  generalize sv C5 (73 + 6 * q + 5) ((C5 (73 + 6 * q + 5)).toInt32 + 1).toInt64 = C6 at s6 ⊢
  generalize sv I (73 + 6 * q + 5) (H (73 + 6 * q + 5) + 1) = K at s6 o6 ⊢
  have k2 : K (73 + 6 * q + 2) = D (73 + 6 * q + 2) := by rw [o6 _ (by omega) (by omega) (by omega), o4 _ (by omega) (by omega) (by omega)]
  have k3 : K (73 + 6 * q + 3) = D (73 + 6 * q + 3) := by rw [o6 _ (by omega) (by omega) (by omega), o4 _ (by omega) (by omega) (by omega)]
  have d2 : C6 (73 + 6 * q + 2) = D (73 + 6 * q + 2) := by rw [s6.g (lv_f hq (by decide)), k2]
  have d3 : C6 (73 + 6 * q + 3) = D (73 + 6 * q + 3) := by rw [s6.g (lv_f hq (by decide)), k3]
  have hfe := fol_e (x := D (73 + 6 * q + 2)) (v := D (73 + 6 * q + 3)) (by omega) hg
  have hfm := fol_m1 (x := D (73 + 6 * q + 2)) (v := D (73 + 6 * q + 3)) (by omega) hg
  rw [d2, d3]
  have e2 : (sv C6 (73 + 6 * q + 2) (fol (D (73 + 6 * q + 2)).toInt32 (D (73 + 6 * q + 3)).toInt32).toInt64 (73 + 6 * q + 2)).toInt32 = fol (D (73 + 6 * q + 2)).toInt32 (D (73 + 6 * q + 3)).toInt32 := by rw [sv_get, if_pos rfl, i64_32]
  rw [e2]
  unfold pF6
  rw [k3]
  by_cases h0 : 0 < D (73 + 6 * q + 3)
  · have z0 : ¬ D (73 + 6 * q + 3) = 0 := fun q => by rw [q] at h0; exact absurd h0 (by decide)
    rw [if_neg (by rw [hfm]; exact fun q => q h0), if_pos h0]
    refine s6.put (by omega) (by omega) ?_
    rw [hfe, if_neg z0, k2]
  · have z0 : D (73 + 6 * q + 3) = 0 := i64_ext (by rw [Int64.lt_iff_toInt_lt, iv0] at h0; rw [iv0]; omega)
    rw [if_pos (by rw [hfm]; exact h0), if_neg h0]
    have s7 : AL a e f i b (sv C6 (73 + 6 * q + 2) (fol (D (73 + 6 * q + 2)).toInt32 (D (73 + 6 * q + 3)).toInt32).toInt64) (sv K (73 + 6 * q + 2) (-1)) := by
      refine s6.put (by omega) (by omega) ?_
      rw [hfe, if_pos z0]
    generalize sv C6 (73 + 6 * q + 2) (fol (D (73 + 6 * q + 2)).toInt32 (D (73 + 6 * q + 3)).toInt32).toInt64 = C7 at s7 ⊢
    generalize sv K (73 + 6 * q + 2) (-1) = P at s7 ⊢
    have eP : pShf P (73 + 6 * q) 7 (P (73 + 6 * q)) = sv (sv P 7 (P 7 + P (73 + 6 * q))) (73 + 6 * q) 0 := by
      unfold pShf
      funext k
      simp only [sv_get]
      by_cases h7 : k = 7
      · rw [if_pos h7, if_neg (by omega), if_pos h7, if_neg (by omega)]
      · rw [if_neg h7, if_neg h7]
        split
        · exact Int64.sub_self _
        · rfl
    rw [eP]
    refine (s7.put (by omega) (by omega) ?_).put (by omega) (by omega) rfl
    rw [s7.g (lv_8 (by omega)), s7.g (lv_f0 hq)]
/-! ### the loops -/
theorem d6_eq (hJ : J N a e f i b p D) {x : Int64} (hx : -1 ≤ x.toInt ∧ x.toInt < 2 ^ 30) : (x.toInt32 = (D 6).toInt32) = (x = D 6) := by
  have := hJ.d6
  exact eq32 (by omega) (by omega)
theorem AL.incs (hJ : J N a e f i b p D) (h : AL a e f i b C D) : ∀ k, k ≤ i → N + k < 2 ^ 20 → AL a e f i b (kIncs C k) (pIncs D k)
  | 0, _, _ => h
  | k + 1, hk, hN => by
    have q := AL.incs hJ h k (by omega) (by omega)
    have j := hJ.incs k (by omega) (by omega)
    have hi := hJ.2.1.2.2.2.1
    have hn := j.inx (q := k) (by omega)
    have hN0 := hJ.1
    rw [kIncs, pIncs]
    rw [q.g (lv_i (q := k) (r := 2) (by omega) (by decide)), q.g (lv_8 (q := 6) (by omega))]
    simp only [d6_eq j (x := pIncs D k (109 + 4 * k + 2)) (by omega)]
    split
    · exact q.inc j (by omega) (by omega)
    · exact q
theorem AL.bls (hJ : J N a e f i b p D) (h : AL a e f i b C D) : ∀ k, k ≤ b → N + k < 2 ^ 20 → AL a e f i b (kBils C k) (pBils D k)
  | 0, _, _ => h
  | k + 1, hk, hN => by
    have q := AL.bls hJ h k (by omega) (by omega)
    have j := hJ.bls k (by omega) (by omega)
    have hi := hJ.2.1.2.2.2.2.1
    have hn := j.bn (q := k) (by omega)
    have hN0 := hJ.1
    rw [kBils, pBils]
    rw [q.g (lv_b (q := k) (r := 3) (by omega) (by decide)), q.g (lv_8 (q := 6) (by omega))]
    simp only [d6_eq j (x := pBils D k (125 + 5 * k + 3)) (by omega)]
    split
    · exact q.payB j (by omega) (by omega)
    · exact q
theorem AL.fns (hJ : J N a e f i b p D) (h : AL a e f i b C D) : ∀ k, k ≤ f → N + k < 2 ^ 20 → AL a e f i b (kPayFs C k) (pFns D k)
  | 0, _, _ => h
  | k + 1, hk, hN => by
    have q := AL.fns hJ h k (by omega) (by omega)
    have j := hJ.fns k (by omega) (by omega)
    have hi := hJ.2.1.2.2.1
    have hn := j.fn (q := k) (by omega)
    have hN0 := hJ.1
    rw [kPayFs, pFns]
    rw [q.g (lv_f (q := k) (r := 2) (by omega) (by decide)), q.g (lv_8 (q := 6) (by omega))]
    simp only [d6_eq j (x := pFns D k (73 + 6 * k + 2)) (by omega)]
    split
    · exact q.payF j (by omega) (by omega)
    · exact q
end REL4
