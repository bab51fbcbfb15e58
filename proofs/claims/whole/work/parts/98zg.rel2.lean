/-! ===== Relation of the rows, 2: covering, paying ===== -/
section REL2
variable {N a e f i b p : Nat} {C D : Row} {k : Nat} {v w : Int64}
theorem sv_abs {q j : Nat} {u x y : Int64} {C : Row} : sv (sv (sv C q u) j x) q y = sv (sv C j x) q y := by
  funext k
  simp only [sv_get]
  split
  · rfl
  · split
    · rfl
    · rfl
theorem sv_id {q : Nat} {u : Int64} {C : Row} (h : u = C q) : sv C q u = C := by
  funext k
  rw [sv_get]
  split
  · rename_i hk; rw [hk, h]
  · rfl
theorem lv_e {q r : Nat} (hq : q < e) (hr : r < 6) : Live a e f i b (13 + 6 * q + r) := by unfold Live; omega
theorem lv_e0 {q : Nat} (hq : q < e) : Live a e f i b (13 + 6 * q) := by unfold Live; omega
theorem lv_f {q r : Nat} (hq : q < f) (hr : r < 6) : Live a e f i b (73 + 6 * q + r) := by unfold Live; omega
theorem lv_f0 {q : Nat} (hq : q < f) : Live a e f i b (73 + 6 * q) := by unfold Live; omega
theorem lv_i {q r : Nat} (hq : q < i) (hr : r < 4) : Live a e f i b (109 + 4 * q + r) := by unfold Live; omega
theorem lv_i0 {q : Nat} (hq : q < i) : Live a e f i b (109 + 4 * q) := by unfold Live; omega
theorem lv_b {q r : Nat} (hq : q < b) (hr : r < 5) : Live a e f i b (125 + 5 * q + r) := by unfold Live; omega
theorem lv_b0 {q : Nat} (hq : q < b) : Live a e f i b (125 + 5 * q) := by unfold Live; omega
theorem lv_a {q : Nat} (hq : q < a) : Live a e f i b (9 + q) := by unfold Live; omega
theorem lv_8 {q : Nat} (hq : q < 8) : Live a e f i b q := by unfold Live; omega
theorem c_in {q c : Nat} (hq : q < c) (hc : c ≤ 400) : 0 ≤ nI q ∧ nI q < nI c := ⟨by show nI 0 ≤ nI q; rw [mI_le (by omega) (by omega)]; omega, by rw [mI_lt (by omega) (by omega)]; exact hq⟩
theorem cov_step {q : Nat} {l : Int64} {j : Nat} (hq : q < e) (he : e ≤ 10) (hj : Live a e f i b j) (hj8 : j ≠ 8) (hjl : j < 191) (hjq : j ≠ 13 + 6 * q) (h1 : AL a e f i b (sv C (13 + 6 * q) (D (13 + 6 * q))) D) (h2 : C (13 + 6 * q) = D (13 + 6 * q) + l) (h3 : l = mx 0 (-(D (13 + 6 * q)))) :
    AL a e f i b (sv (sv C j (C j - giv (C j) l)) (13 + 6 * q) (pCov D (13 + 6 * q) j (13 + 6 * q))) (pCov D (13 + 6 * q) j) ∧ sv C j (C j - giv (C j) l) (13 + 6 * q) = pCov D (13 + 6 * q) j (13 + 6 * q) + (l - giv (C j) l) ∧ l - giv (C j) l = mx 0 (-(pCov D (13 + 6 * q) j (13 + 6 * q))) := by
  have hC : C j = D j := by
    have := h1.g hj
    rwa [sv_get, if_neg hjq] at this
  have hv : giv (C j) l = mn (mx 0 (-(D (13 + 6 * q)))) (mx 0 (D j)) := by rw [h3, giv_mn mx_nn, hC]
  have hD : pCov D (13 + 6 * q) j (13 + 6 * q) = D (13 + 6 * q) + mn (mx 0 (-(D (13 + 6 * q)))) (mx 0 (D j)) := by
    unfold pCov pShf
    rw [sv_get, if_pos rfl, sv_get, if_neg (Ne.symm hjq)]
  refine ⟨?_, ?_, ?_⟩
  · rw [hv, hC, ← sv_abs (u := D (13 + 6 * q))]
    refine (h1.put hjl hj8 rfl).put (by omega) (by omega) ?_
    rw [hD, sv_get, if_neg (Ne.symm hjq)]
  · rw [sv_get, if_neg (Ne.symm hjq), h2, hD, hv]
    apply Int64.toBitVec.inj
    simp only [Int64.toBitVec_add, Int64.toBitVec_sub]
    generalize (mn (mx 0 (-(D (13 + 6 * q)))) (mx 0 (D j))).toBitVec = x
    generalize (D (13 + 6 * q)).toBitVec = y
    generalize l.toBitVec = z
    apply BitVec.eq_of_toInt_eq
    simp only [BitVec.toInt_add, BitVec.toInt_sub]
    simp only [Int.bmod_def]
    omega
  · rw [hD, ← cov_l, hv, h3]
theorem cov_L {q : Nat} (hq : q < e) (he : e ≤ 10) : ∀ m C D l o, J N a e f i b p D → (o = -1 ∨ ∃ j, j < q ∧ o = nI j) → AL a e f i b (sv C (13 + 6 * q) (D (13 + 6 * q))) D → C (13 + 6 * q) = D (13 + 6 * q) + l → l = mx 0 (-(D (13 + 6 * q))) →
    AL a e f i b (sv (kCovL m C l o).1 (13 + 6 * q) (pCvL q m D o (13 + 6 * q))) (pCvL q m D o) ∧ (kCovL m C l o).1 (13 + 6 * q) = pCvL q m D o (13 + 6 * q) + (kCovL m C l o).2 ∧ (kCovL m C l o).2 = mx 0 (-(pCvL q m D o (13 + 6 * q))) := by
  intro m
  induction m with
  | zero => intro C D l o _ _ h1 h2 h3; exact ⟨h1, h2, h3⟩
  | succ m ih =>
    intro C D l o hJ ho h1 h2 h3
    rw [kCovL, pCvL]
    have hc1 : (C 1).toInt32 = nI e := by
      have := h1.c1 hJ
      rwa [sv_get, if_neg (by omega)] at this
    rcases ho with rfl | ⟨j, hj, rfl⟩
    · rw [if_neg (fun h => absurd h.1 (by decide)), if_pos rfl]
      exact ⟨h1, h2, h3⟩
    · have z : (nI j).toNatClampNeg = j := nI_clamp (by omega)
      have nm : ¬ nI j = -1 := by
        intro h
        have := congrArg Int32.toInt h
        rw [nI_32 (by omega)] at this
        have e : (-1 : Int32).toInt = -1 := rfl
        omega
      rw [if_pos (by rw [hc1]; exact c_in (by omega) (by omega)), if_neg nm]
      dsimp only
      rw [z]
      obtain ⟨s1, s2, s3⟩ := cov_step (j := 13 + 6 * j) hq he (lv_e0 (by omega)) (by omega) (by omega) (by omega) h1 h2 h3
      have hJ2 : J N a e f i b p (pCov D (13 + 6 * q) (13 + 6 * j)) := hJ.shf (jB_e0 (by omega)) (jB_e0 (by omega))
      have ho4 : (sv C (13 + 6 * j) (C (13 + 6 * j) - giv (C (13 + 6 * j)) l) (13 + 6 * j + 4)) = D (13 + 6 * j + 4) := by
        rw [sv_get, if_neg (by omega)]
        have := h1.g (lv_e (q := j) (r := 4) (by omega) (by decide))
        rwa [sv_get, if_neg (by omega)] at this
      rw [ho4]
      refine ih _ _ _ _ hJ2 ?_ s1 s2 s3
      rcases hJ.out.2 j (by omega) with h | ⟨o, ho, h⟩
      · exact Or.inl h
      · exact Or.inr ⟨o, by omega, h⟩
theorem AL.cov (hJ : J N a e f i b p D) (h : AL a e f i b C D) {q : Nat} (hq : q < e) : AL a e f i b (kCov C q) (pCvE D q) := by
  have he := hJ.2.1.2.1
  have hCq : C (13 + 6 * q) = D (13 + 6 * q) := h.g (lv_e0 hq)
  have hC4 : sv C (13 + 6 * q) (C (13 + 6 * q) + mx 0 (-(C (13 + 6 * q)))) (13 + 6 * q + 4) = D (13 + 6 * q + 4) := by
    rw [sv_get, if_neg (by omega)]
    exact h.g (lv_e hq (by decide))
  obtain ⟨s1, s2, s3⟩ := cov_L (N := N) (p := p) (a := a) (f := f) (i := i) (b := b) hq he 10 (sv C (13 + 6 * q) (C (13 + 6 * q) + mx 0 (-(C (13 + 6 * q))))) D (mx 0 (-(C (13 + 6 * q)))) (D (13 + 6 * q + 4)).toInt32 hJ (hJ.out.2 q hq) (by rw [sv_sv, sv_id hCq.symm]; exact h) (by rw [sv_get, if_pos rfl, hCq]) (by rw [hCq])
  unfold kCov kCovA pCvE
  dsimp only
  rw [hC4]
  generalize kCovL 10 _ _ _ = R at s1 s2 s3 ⊢
  generalize pCvL q 10 D _ = E at s1 s2 s3 ⊢
  obtain ⟨t1, t2, t3⟩ := cov_step (j := 7) hq he (lv_8 (by omega)) (by omega) (by omega) (by omega) s1 s2 s3
  have ee : sv R.1 7 (R.1 7 - giv (R.1 7) R.2) (13 + 6 * q) - (R.2 - giv (R.1 7) R.2) = pCov E (13 + 6 * q) 7 (13 + 6 * q) := by
    rw [t2]
    exact Int64.add_sub_cancel _ _
  rw [ee]
  exact t1
theorem AL.tak (hJ : J N a e f i b p D) (h : AL a e f i b C D) {q : Nat} (hq : q < e) (hv : v = w) : AL a e f i b (kSpend C q v) (pTak D q w) := by
  have he := hJ.2.1.2.1
  subst hv
  unfold kSpend pTak
  dsimp only
  have h1 : AL a e f i b (sv C (13 + 6 * q) (C (13 + 6 * q) - v)) (sv D (13 + 6 * q) (D (13 + 6 * q) - v)) := h.put (by omega) (by omega) (by rw [h.g (lv_e0 hq)])
  have h2 : AL a e f i b (sv (sv C (13 + 6 * q) (C (13 + 6 * q) - v)) (13 + 6 * q + 5) (sv C (13 + 6 * q) (C (13 + 6 * q) - v) (13 + 6 * q + 5) + v)) (sv (sv D (13 + 6 * q) (D (13 + 6 * q) - v)) (13 + 6 * q + 5) (sv D (13 + 6 * q) (D (13 + 6 * q) - v) (13 + 6 * q + 5) + v)) := h1.put (by omega) (by omega) (by rw [h1.g (lv_e hq (by decide))])
  exact h2.cov ((hJ.full (jB_e0 (by omega))).full (jB_e5 (by omega))) hq
theorem fol_e {x v : Int64} (hx : -1 ≤ x.toInt ∧ x.toInt < 2 ^ 30) (hv : 0 ≤ v.toInt ∧ v.toInt ≤ 400) : (fol x.toInt32 v.toInt32).toInt64 = if v = 0 then -1 else x + v := by
  have ex := to32 (x := x) (by omega) (by omega)
  have ev := to32 (x := v) (by omega) (by omega)
  unfold fol
  by_cases h : v = 0
  · subst h
    rw [if_pos (by decide), if_pos rfl]
    rfl
  · have h0 : ¬ v.toInt = 0 := fun q => h (i64_ext q)
    have h1 : ¬ v.toInt32 ≤ 0 := by
      rw [Int32.le_iff_toInt_le, ev]
      show ¬ v.toInt ≤ 0
      omega
    rw [if_neg h1, if_neg h]
    apply i64_ext
    rw [Int32.toInt_toInt64, Int32.toInt_add, ex, ev, ia (by omega) (by omega), Int.bmod_def]
    omega
theorem pLg_sv {D : Row} {k q : Nat} {K z : Int32} {x u v : Int64} (h : k < 191) (h8 : k ≠ 8) (h6 : k ≠ 6) : pLog (sv D k v) q K z x u = sv (pLog D q K z x u) k v := by
  unfold pLog
  have e6 : sv D k v 6 = D 6 := by rw [sv_get, if_neg (Ne.symm h6)]
  have e8 : sv D k v 8 = D 8 := by rw [sv_get, if_neg (Ne.symm h8)]
  rw [e6]
  have e8' : ∀ E : Row, sv (sv (sv (sv (sv E (191 + 5 * q) K.toInt64) (191 + 5 * q + 1) (D 6)) (191 + 5 * q + 2) z.toInt64) (191 + 5 * q + 3) x) (191 + 5 * q + 4) u 8 = E 8 := fun E => by
    simp only [sv_get]
    rw [if_neg (by omega), if_neg (by omega), if_neg (by omega), if_neg (by omega), if_neg (by omega)]
  rw [e8]
  funext j
  simp only [sv_get]
  by_cases hj : j = k
  · subst hj
    simp only [if_pos trivial]
    rw [if_neg h8, if_neg (by omega), if_neg (by omega), if_neg (by omega), if_neg (by omega), if_neg (by omega)]
  · simp only [if_neg hj]
theorem lgQ_sv {D : Row} {k : Nat} {v : Int64} (h8 : k ≠ 8) : lgQ (sv D k v) = lgQ D := by unfold lgQ; rw [sv_get, if_neg (Ne.symm h8)]
end REL2
