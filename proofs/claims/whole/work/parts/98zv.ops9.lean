/-! ===== A call of the class beside the model's, 9: debts ===== -/
section OPD
variable {G : qG} {y : Nat → Option qSh} {μ ν : qMu} {X M k n s N a e f i b p e0 c : Nat} {C D : Row} {cd : Nat → Int64} {kd cm mm : Nat} {ca ma : List Value} {C' D' : Row} {v' : Value} {E : Nat}
theorem leI_congr {O W : Nat → Int64} : ∀ q, (∀ j, j ≤ q → O j = W j) → leI O q = leI W q
  | 0, _ => rfl
  | q + 1, h => by
    have := leI_le (O := W) q
    rw [leI, leI, leI_congr q fun j hj => h j (by omega), h (q + 1) (Nat.le_refl _), h (leI W q) (by omega)]
theorem grI_congr {O W : Nat → Int64} : ∀ q, (∀ j, j ≤ q → O j = W j) → grI O q = grI W q
  | 0, _ => rfl
  | q + 1, h => by
    have := grI_le (O := W) q
    rw [grI, grI, grI_congr q fun j hj => h j (by omega), h (q + 1) (Nat.le_refl _), h (grI W q) (by omega)]
theorem le_ext {O : Nat → Int64} {r : Nat} : ∀ t, (∀ j, r < j → j ≤ r + t → O j = 0) → (O (leI O r) ≤ 0 → leI O (r + t) = leI O r) ∧ (0 < O (leI O r) → 0 ≤ O (leI O (r + t)))
  | 0, _ => ⟨fun _ => rfl, fun h => Int64.le_of_lt h⟩
  | t + 1, h => by
    obtain ⟨i1, i2⟩ := le_ext (O := O) (r := r) t fun j h1 h2 => h j h1 (by omega)
    have e0 := h (r + t + 1) (by omega) (by omega)
    show (_ → leI O (r + t + 1) = _) ∧ (_ → 0 ≤ O (leI O (r + t + 1)))
    rw [leI, e0]
    constructor
    · intro q
      rw [i1 q, if_neg (Int64.not_lt.mpr q)]
    · intro q
      split
      · rw [e0]; exact Int64.le_refl _
      · exact i2 q
theorem gr_ext {O : Nat → Int64} {r : Nat} : ∀ t, (∀ j, r < j → j ≤ r + t → O j = 0) → (0 ≤ O (grI O r) → grI O (r + t) = grI O r) ∧ (O (grI O r) < 0 → O (grI O (r + t)) ≤ 0)
  | 0, _ => ⟨fun _ => rfl, fun h => Int64.le_of_lt h⟩
  | t + 1, h => by
    obtain ⟨i1, i2⟩ := gr_ext (O := O) (r := r) t fun j h1 h2 => h j h1 (by omega)
    have e0 := h (r + t + 1) (by omega) (by omega)
    show (_ → grI O (r + t + 1) = _) ∧ (_ → O (grI O (r + t + 1)) ≤ 0)
    rw [grI, e0]
    constructor
    · intro q
      rw [i1 q, if_neg (Int64.not_lt.mpr q)]
    · intro q
      split
      · rw [e0]; exact Int64.le_refl _
      · exact i2 q
theorem in0 {x : Int64} (h : x.toInt ≠ -2 ^ 63) : (-x).toInt = -x.toInt := by
  have h1 := Int64.toInt_lt x
  have h2 := Int64.le_toInt x
  exact in_ (by omega)
theorem in1 {x : Int64} (h : x.toInt = -2 ^ 63) : (-x).toInt = -2 ^ 63 := by
  have : x = -9223372036854775808 := Int64.toInt_inj.mp (by rw [h]; decide)
  rw [this]
  decide
theorem Z0 : (0 : Int64).toInt = 0 := by decide
theorem le0 {x : Int64} : x ≤ 0 ↔ x.toInt ≤ 0 := by rw [Int64.le_iff_toInt_le, Z0]
theorem lt0 {x : Int64} : x < 0 ↔ x.toInt < 0 := by rw [Int64.lt_iff_toInt_lt, Z0]
theorem ge0 {x : Int64} : 0 ≤ x ↔ 0 ≤ x.toInt := by rw [Int64.le_iff_toInt_le, Z0]
theorem gt0 {x : Int64} : 0 < x ↔ 0 < x.toInt := by rw [Int64.lt_iff_toInt_lt, Z0]
theorem mn_le0 {x z : Int64} : mn x z ≤ 0 ↔ x ≤ 0 ∨ z ≤ 0 := by
  have h1 := @le_mn 1 x z
  rw [le0, le0, le0]
  omega
/-- the same step of both -/
def dRel (p : Nat) (O W : QF) : Prop := (∀ j, j < p → O j = W j) ∧ ∀ j, p ≤ j → j < 6 → O j = 0
theorem dg_le {O W : QF} (hp : 1 ≤ p ∧ p ≤ 6) (h : dRel p O W) (h0 : pdA p W ≤ 0) : dgA O = 0 := by
  have el := leI_congr (O := O) (W := W) (p - 1) fun j hj => h.1 j (by omega)
  have eg := grI_congr (O := O) (W := W) (p - 1) fun j hj => h.1 j (by omega)
  obtain ⟨l1, l2⟩ := le_ext (O := O) (r := p - 1) (6 - p) fun j h1 h2 => h.2 j (by omega) (by omega)
  obtain ⟨g1, g2⟩ := gr_ext (O := O) (r := p - 1) (6 - p) fun j h1 h2 => h.2 j (by omega) (by omega)
  rw [show p - 1 + (6 - p) = 5 by omega] at l1 l2 g1 g2
  have ll := leI_le (O := W) (p - 1)
  have lg := grI_le (O := W) (p - 1)
  unfold pdA at h0
  rw [← el, ← eg, ← h.1 _ (by omega), ← h.1 (grI O (p - 1)) (by omega), mn_le0] at h0
  unfold dgA giv
  have hm : mn (O (grI O 5)) (-(O (leI O 5))) ≤ 0 := by
    rw [mn_le0]
    rcases h0 with h0 | h0
    · right
      by_cases q : O (leI O (p - 1)) ≤ 0
      · rw [l1 q]; exact h0
      · have := l2 (Int64.not_le.mp q)
        rw [ge0] at this
        rw [le0, in0 (by omega)]
        omega
    · left
      by_cases q : 0 ≤ O (grI O (p - 1))
      · rw [g1 q]; exact h0
      · exact g2 (Int64.not_le.mp q)
  unfold mx
  split
  · rename_i q
    exact absurd q (Int64.not_lt.mpr hm)
  · rfl
theorem dg_gt {O W : QF} (hp : 1 ≤ p ∧ p ≤ 6) (h : dRel p O W) (h0 : ¬ pdA p W ≤ 0) : leI O 5 = leI W (p - 1) ∧ grI O 5 = grI W (p - 1) ∧ dgA O = pdA p W ∧ (W (leI W (p - 1))).toInt < 0 ∧ 0 < (W (grI W (p - 1))).toInt ∧ (W (leI W (p - 1))).toInt ≠ -2 ^ 63 := by
  have el := leI_congr (O := O) (W := W) (p - 1) fun j hj => h.1 j (by omega)
  have eg := grI_congr (O := O) (W := W) (p - 1) fun j hj => h.1 j (by omega)
  obtain ⟨l1, -⟩ := le_ext (O := O) (r := p - 1) (6 - p) fun j h1 h2 => h.2 j (by omega) (by omega)
  obtain ⟨g1, -⟩ := gr_ext (O := O) (r := p - 1) (6 - p) fun j h1 h2 => h.2 j (by omega) (by omega)
  rw [show p - 1 + (6 - p) = 5 by omega] at l1 g1
  have ll := leI_le (O := W) (p - 1)
  have lg := grI_le (O := W) (p - 1)
  unfold pdA at h0 ⊢
  rw [mn_le0] at h0
  have h1 : ¬ -(W (leI W (p - 1))) ≤ 0 := fun q => h0 (Or.inl q)
  have h2 : ¬ W (grI W (p - 1)) ≤ 0 := fun q => h0 (Or.inr q)
  rw [le0] at h1 h2
  have hne : (W (leI W (p - 1))).toInt ≠ -2 ^ 63 := fun q => by rw [in1 q] at h1; omega
  rw [in0 hne] at h1
  have a1 := l1 (by rw [el, h.1 _ (by omega), le0]; omega)
  have a2 := g1 (by rw [eg, h.1 _ (by omega), ge0]; omega)
  refine ⟨by rw [a1, el], by rw [a2, eg], ?_, by omega, by omega, hne⟩
  unfold dgA giv
  rw [a1, a2, el, eg, h.1 (leI W (p - 1)) (by omega), h.1 (grI W (p - 1)) (by omega)]
  have e1 : mn (W (grI W (p - 1))) (-(W (leI W (p - 1)))) = mn (-(W (leI W (p - 1)))) (W (grI W (p - 1))) := by
    apply i64_ext
    have k1 := @le_mn
    have b1 := (k1 (z := (mn (W (grI W (p - 1))) (-(W (leI W (p - 1))))).toInt)).mp (Int.le_refl _)
    have b2 := (k1 (z := (mn (-(W (leI W (p - 1)))) (W (grI W (p - 1)))).toInt)).mp (Int.le_refl _)
    have b3 := (k1 (x := -(W (leI W (p - 1)))) (w := W (grI W (p - 1)))).mpr ⟨b1.2, b1.1⟩
    have b4 := (k1 (x := W (grI W (p - 1))) (w := -(W (leI W (p - 1))))).mpr ⟨b2.2, b2.1⟩
    omega
  rw [e1]
  unfold mx
  rw [if_pos]
  rw [gt0]
  have := (le_mn (z := 1) (x := -(W (leI W (p - 1)))) (w := W (grI W (p - 1)))).mpr ⟨by rw [in0 hne]; omega, by omega⟩
  omega
theorem dRel.step {O W : QF} (hp : 1 ≤ p ∧ p ≤ 6) (h : dRel p O W) (h0 : ¬ pdA p W ≤ 0) : dRel p (dgO O) (pdO p W) := by
  obtain ⟨e1, e2, e3, -⟩ := dg_gt hp h h0
  have ll := leI_le (O := W) (p - 1)
  have lg := grI_le (O := W) (p - 1)
  unfold dgO pdO
  rw [e1, e2, e3, h.1 (leI W (p - 1)) (by omega)]
  refine ⟨fun j hj => ?_, fun j h1 h2 => ?_⟩
  · simp only [sv_get]
    rw [h.1 j hj, h.1 (grI W (p - 1)) (by omega)]
  · rw [sv_get, if_neg (by omega), sv_get, if_neg (by omega)]
    exact h.2 j h1 h2
/-- the arrays filled so far -/
def dAr (c : Nat) (P R A P' R' A' : QF) : Prop := ∀ j, j < c → P j = P' j ∧ R j = R' j ∧ A j = A' j
theorem db_eq (hp : 1 ≤ p ∧ p ≤ 6) : ∀ k c (O W P R A A' P' R' : QF), dRel p O W → dAr c P R A P' R' A' → (dbF k c O P R A).1 = (pdF p k c W A' P' R').1 ∧ dAr (dbF k c O P R A).1 (dbF k c O P R A).2.2.1 (dbF k c O P R A).2.2.2.1 (dbF k c O P R A).2.2.2.2 (pdF p k c W A' P' R').2.2.2.1 (pdF p k c W A' P' R').2.2.2.2 (pdF p k c W A' P' R').2.2.1
  | 0, c, O, W, P, R, A, A', P', R', _, h => ⟨rfl, h⟩
  | k + 1, c, O, W, P, R, A, A', P', R', hr, h => by
    rw [dbF, pdF]
    by_cases h0 : pdA p W ≤ 0
    · rw [if_pos h0, if_pos (dg_le hp hr h0)]
      exact ⟨rfl, h⟩
    · obtain ⟨e1, e2, e3, w1, w2, w3⟩ := dg_gt hp hr h0
      rw [if_neg h0, if_neg (by rw [e3]; intro q; exact h0 (by rw [q]; exact Int64.le_refl _)), e1, e2, e3]
      refine db_eq hp k (c + 1) _ _ _ _ _ _ _ _ (hr.step hp h0) fun j hj => ?_
      simp only [sv_get]
      by_cases q : j = c
      · rw [if_pos q, if_pos q, if_pos q, if_pos q, if_pos q, if_pos q]
        exact ⟨rfl, rfl, rfl⟩
      · rw [if_neg q, if_neg q, if_neg q, if_neg q, if_neg q, if_neg q]
        exact h j (by omega)
/-- how many have something -/
def nzc (O : QF) : Nat → Nat
  | 0 => 0
  | q + 1 => nzc O q + if O q = 0 then 0 else 1
theorem nzc_le {O : QF} : ∀ q, nzc O q ≤ q
  | 0 => Nat.le_refl _
  | q + 1 => by
    have := nzc_le (O := O) q
    rw [nzc]
    split <;> omega
theorem nzc_sv {O : QF} {j : Nat} {v : Int64} : ∀ q, nzc (sv O j v) q + (if j < q then (if O j = 0 then 0 else 1) else 0) = nzc O q + if j < q then (if v = 0 then 0 else 1) else 0
  | 0 => by rw [nzc, nzc, if_neg (by omega), if_neg (by omega)]
  | q + 1 => by
    have ih := nzc_sv (O := O) (j := j) (v := v) q
    rw [nzc, nzc, sv_get]
    by_cases h : q = j
    · subst h
      rw [if_neg (show ¬ q < q by omega), if_neg (show ¬ q < q by omega)] at ih
      rw [if_pos rfl, if_pos (show q < q + 1 by omega), if_pos (show q < q + 1 by omega)]
      omega
    · rw [if_neg h]
      by_cases h2 : j < q
      · rw [if_pos h2, if_pos h2] at ih
        rw [if_pos (show j < q + 1 by omega), if_pos (show j < q + 1 by omega)]
        omega
      · rw [if_neg h2, if_neg h2] at ih
        rw [if_neg (show ¬ j < q + 1 by omega), if_neg (show ¬ j < q + 1 by omega)]
        omega
theorem pd_facts {W : QF} (hp : 1 ≤ p ∧ p ≤ 6) (h0 : ¬ pdA p W ≤ 0) : (W (leI W (p - 1))).toInt < 0 ∧ 0 < (W (grI W (p - 1))).toInt ∧ (pdA p W).toInt = min (-(W (leI W (p - 1))).toInt) (W (grI W (p - 1))).toInt := by
  unfold pdA at h0 ⊢
  rw [mn_le0] at h0
  have h1 : ¬ -(W (leI W (p - 1))) ≤ 0 := fun q => h0 (Or.inl q)
  have h2 : ¬ W (grI W (p - 1)) ≤ 0 := fun q => h0 (Or.inr q)
  rw [le0] at h1 h2
  have hne : (W (leI W (p - 1))).toInt ≠ -2 ^ 63 := fun q => by rw [in1 q] at h1; omega
  rw [in0 hne] at h1
  have b1 := (le_mn (z := (mn (-(W (leI W (p - 1)))) (W (grI W (p - 1)))).toInt)).mp (Int.le_refl _)
  have b2 := (le_mn (z := min (-(W (leI W (p - 1))).toInt) (W (grI W (p - 1))).toInt) (x := -(W (leI W (p - 1)))) (w := W (grI W (p - 1)))).mpr ⟨by rw [in0 hne]; omega, by omega⟩
  rw [in0 hne] at b1
  refine ⟨by omega, by omega, by omega⟩
theorem nzc_2 {W : QF} (hp : 1 ≤ p ∧ p ≤ 6) (h0 : ¬ pdA p W ≤ 0) : nzc (pdO p W) p + 1 ≤ nzc W p ∧ 2 ≤ nzc W p := by
  obtain ⟨w1, w2, w3⟩ := pd_facts hp h0
  have ll := leI_le (O := W) (p - 1)
  have lg := grI_le (O := W) (p - 1)
  have hlg : leI W (p - 1) ≠ grI W (p - 1) := fun q => by rw [q] at w1; omega
  unfold pdO
  generalize leI W (p - 1) = l at *
  generalize grI W (p - 1) = g at *
  have b1 := Int64.le_toInt (W l)
  have b2 := Int64.toInt_lt (W g)
  have n1 : ¬ W l = 0 := fun q => by rw [q, Z0] at w1; omega
  have n2 : ¬ W g = 0 := fun q => by rw [q, Z0] at w2; omega
  have e1 : (W l + pdA p W).toInt = (W l).toInt + (pdA p W).toInt := ia (by omega) (by omega)
  have e2 : (W g - pdA p W).toInt = (W g).toInt - (pdA p W).toInt := is_ (by omega) (by omega)
  have s1 := nzc_sv (O := W) (j := l) (v := W l + pdA p W) p
  have s2 := nzc_sv (O := sv W l (W l + pdA p W)) (j := g) (v := sv W l (W l + pdA p W) g - pdA p W) p
  rw [if_pos (show l < p by omega), if_neg n1, if_pos (show l < p by omega)] at s1
  have eg : sv W l (W l + pdA p W) g = W g := by rw [sv_get, if_neg (fun q => hlg q.symm)]
  rw [eg] at s2 ⊢
  rw [if_pos (show g < p by omega), if_neg n2, if_pos (show g < p by omega)] at s2
  have z1 : (W l + pdA p W = 0) ∨ (W g - pdA p W = 0) := by
    by_cases q : -(W l).toInt ≤ (W g).toInt
    · left
      exact Int64.toInt_inj.mp (by rw [e1, Z0]; omega)
    · right
      exact Int64.toInt_inj.mp (by rw [e2, Z0]; omega)
  have t1 := nzc_sv (O := W) (j := l) (v := 0) p
  have t2 := nzc_sv (O := sv W l 0) (j := g) (v := 0) p
  have eg0 : sv W l 0 g = W g := by rw [sv_get, if_neg (fun q => hlg q.symm)]
  rw [if_pos (show l < p by omega), if_neg n1, if_pos (show l < p by omega), if_pos rfl] at t1
  rw [eg0, if_pos (show g < p by omega), if_neg n2, if_pos (show g < p by omega), if_pos rfl] at t2
  rcases z1 with z1 | z1
  · rw [if_pos z1] at s1
    have : (if W g - pdA p W = 0 then 0 else 1) ≤ 1 := by split <;> omega
    omega
  · rw [if_pos z1] at s2
    have : (if W l + pdA p W = 0 then 0 else 1) ≤ 1 := by split <;> omega
    omega
theorem pd_end (hp : 1 ≤ p ∧ p ≤ 6) : ∀ k c (W A P R : QF), nzc W p ≤ k + 1 → pdA p (pdF p k c W A P R).2.1 ≤ 0
  | 0, c, W, A, P, R, h => by
    rw [pdF]
    show pdA p W ≤ 0
    exact Decidable.byContradiction fun q => by
      have := (nzc_2 hp q).2
      omega
  | k + 1, c, W, A, P, R, h => by
    rw [pdF]
    by_cases q : pdA p W ≤ 0
    · rw [if_pos q]; exact q
    · rw [if_neg q]
      have := (nzc_2 hp q).1
      exact pd_end hp k (c + 1) _ _ _ _ (by omega)
/-- the debts of both -/
theorem Sf.dbn {F : Nat × QF × QF × QF × QF} {d : QF} (hXM : X + 465 ≤ M) : Sf X M μ (DY μ (X + 459) d F) := by
  unfold DY DX
  exact ((((Sf.refl.w hXM (by omega)).w hXM (by omega)).w hXM (by omega)).w hXM (by omega)).w hXM (by omega)
theorem dbn_1 {F : Nat × QF × QF × QF × QF} {d : QF} (hXM : X + 465 ≤ M) : DY μ (X + 459) d F (M + 1) = μ (M + 1) := by
  unfold DY DX
  rw [stc_ne (by omega), stc_ne (by omega), stc_ne (by omega), stc_ne (by omega), stc_ne (by omega)]
theorem Sf.dm {q : Nat} (hXM : X + 465 ≤ M) : Sf X M μ (DM μ M (μ (M + 1)) q) ∧ DM μ M (μ (M + 1)) q M 7 = 0 := by
  unfold DM DW DX
  refine ⟨((((((Sf.refl.s7 hXM).s1 hXM fun _ _ => rfl).w hXM (by omega)).w hXM (by omega)).w hXM (by omega)).w hXM (by omega)).w hXM (by omega), ?_⟩
  rw [stc_ne (by omega), stc_ne (by omega), stc_ne (by omega), stc_ne (by omega), stc_ne (by omega), stc_ne (by omega), stc_eq, sv_get, if_pos rfl]
theorem deb_eq (hJ : J N a e f i b p D) (h : AL a e f i b C D) {O A P R : QF} (hXM : X + 465 ≤ M) : (dbE μ X C).1 = (pdN D p O A P R).1 ∧ dAr (dbE μ X C).1 (dbE μ X C).2.2.1 (dbE μ X C).2.2.2.1 (dbE μ X C).2.2.2.2 (pdN D p O A P R).2.2.2.1 (pdN D p O A P R).2.2.2.2 (pdN D p O A P R).2.2.1 ∧ pdA p (pdN D p O A P R).2.1 ≤ 0 := by
  have hp : 1 ≤ p ∧ p ≤ 6 := hJ.2.1.2.2.2.2.2
  have e1 : dRel p (va_cpy (wr μ (X + 1) C (X + 1 + 2)) (wr μ (X + 1) C (X + 459 + 1)) 0 0 6) (cpN D O 6) := by
    have g : ∀ j, j < 6 → va_cpy (wr μ (X + 1) C (X + 1 + 2)) (wr μ (X + 1) C (X + 459 + 1)) 0 0 6 j = D (185 + j) := fun j hj => by
      unfold va_cpy
      rw [if_pos (by omega), show 0 + (j - 0) = j by omega, wg_net hj]
      exact h.g (by unfold Live; omega)
    refine ⟨fun j hj => ?_, fun j h1 h2 => ?_⟩
    · rw [g j (by omega), cpN_get, if_pos (by omega)]
    · rw [g j h2]
      have := hJ.2.2 (185 + j)
      rw [jB_N h2, if_neg (by omega)] at this
      unfold IB at this
      exact Int64.toInt_inj.mp (by rw [Z0]; dsimp only at this; omega)
  have e3 : dbE μ X C = dbF 6 0 (va_cpy (wr μ (X + 1) C (X + 1 + 2)) (wr μ (X + 1) C (X + 459 + 1)) 0 0 6) (wr μ (X + 1) C (X + 459 + 2)) (wr μ (X + 1) C (X + 459 + 3)) (wr μ (X + 1) C (X + 459 + 4)) := by
    unfold dbE dbA
    rfl
  have e4 : pdN D p O A P R = pdF p 6 0 (cpN D O 6) A P R := by unfold pdN; rfl
  rw [e3, e4]
  generalize va_cpy (wr μ (X + 1) C (X + 1 + 2)) (wr μ (X + 1) C (X + 459 + 1)) 0 0 6 = O1 at *
  generalize hO2 : cpN D O 6 = O2 at *
  have h6 : nzc O2 p ≤ 6 + 1 := by have := nzc_le (O := O2) p; omega
  have hz := @db_eq p hp
  have hy := @pd_end p hp
  clear hp
  generalize 6 = k6 at *
  have h1 := hz k6 0 O1 O2 (wr μ (X + 1) C (X + 459 + 2)) (wr μ (X + 1) C (X + 459 + 3)) (wr μ (X + 1) C (X + 459 + 4)) A P R e1 (fun j hj => absurd hj (Nat.not_lt_zero _))
  exact ⟨h1.1, h1.2, hy k6 0 O2 A P R h6⟩
theorem op_67 (hS : SH y X M) : OpI G y X M cd0 0 67 [] 249 [] := by
  intro k μ n s hk hI
  obtain ⟨hE, hF, hDL, hM, hMA, hX⟩ := hS
  have hI' := hI
  obtain ⟨⟨a, e, f, i, b, p, hJ, hA, hd⟩, -, -⟩ := hI'
  have tc := t67 (G := G) (μ := μ) (C := rd μ (X + 1)) (n := n) (s := s) hE hDL
  have hsf : Sf X M μ (dbN μ X (rd μ (X + 1))) := by
    unfold dbN
    rw [wr_rd]
    exact Sf.dbn hX
  have h1 : dbN μ X (rd μ (X + 1)) (M + 1) = μ (M + 1) := by
    unfold dbN
    rw [wr_rd]
    exact dbn_1 hX
  refine lf_ans hk hX hI tc hsf h1 fun μ1 n s hx => ?_
  have h1 : μ1 (M + 1) = μ (M + 1) := (hx (M + 1) (by omega) (by omega)).trans h1
  clear tc hsf hx
  generalize μ1 = ν at *
  obtain ⟨q1, q2, q3⟩ := deb_eq (μ := μ) hJ hA (O := ν (M + 9)) (A := ν (M + 10)) (P := ν (M + 11)) (R := ν (M + 12)) hX
  have tm := t249 (G := G) (μ := ν) (n := n) (s := s) hM hMA hJ q3
  rw [← q1] at tm
  rw [← h1] at tm ⊢
  exact ⟨_, tm, (Sf.dm hX).1, (Sf.dm hX).2⟩
theorem op_126 (hS : SH y X M) {x w : Int32} : OpI G y X M cdA 1 126 [.int x, .int w] 251 [.int x, .int w] := by
  intro k μ n s hk hI
  obtain ⟨hE, hF, hDL, hM, hMA, hX⟩ := hS
  have hI' := hI
  obtain ⟨⟨a, e, f, i, b, p, hJ, hA, hd⟩, -, -⟩ := hI'
  have tc := t126 (G := G) (μ := μ) (C := rd μ (X + 1)) (n := n) (s := s) hE hDL (x := x) (w := w)
  by_cases dw : 0 ≤ w ∧ w ≤ 2
  case neg =>
    obtain ⟨q1, q2, q3⟩ := deb_eq (μ := μ) hJ hA (O := μ (M + 9)) (A := μ (M + 10)) (P := μ (M + 11)) (R := μ (M + 12)) hX
    exact lf_exc hk hX hI (tc.trans (if_pos dw)) (fun μ1 n s hx => by
      have h : ∀ q, M ≤ q → q < M + 15 → μ1 q = μ q := fun q h1 h2 => hx q (by omega) (by omega)
      have q3' := q3
      rw [← h (M + 9) (by omega) (by omega), ← h (M + 10) (by omega) (by omega), ← h (M + 11) (by omega) (by omega), ← h (M + 12) (by omega) (by omega)] at q3'
      exact (t251 (G := G) (μ := μ1) (n := n) (s := s) (x := x) hM hMA hJ q3').trans (if_pos dw)) (by decide)
  replace tc := tc.trans (if_neg (not_not_intro dw))
  have hsf : Sf X M μ (dbN μ X (rd μ (X + 1))) := by
    unfold dbN
    rw [wr_rd]
    exact Sf.dbn hX
  have h1 : dbN μ X (rd μ (X + 1)) (M + 1) = μ (M + 1) := by
    unfold dbN
    rw [wr_rd]
    exact dbn_1 hX
  refine lf_ans hk hX hI tc hsf h1 fun μ1 n s hx => ?_
  have h1 : μ1 (M + 1) = μ (M + 1) := (hx (M + 1) (by omega) (by omega)).trans h1
  clear tc hsf hx
  generalize μ1 = ν at *
  obtain ⟨q1, q2, q3⟩ := deb_eq (μ := μ) hJ hA (O := ν (M + 9)) (A := ν (M + 10)) (P := ν (M + 11)) (R := ν (M + 12)) hX
  have tm := (t251 (G := G) (μ := ν) (n := n) (s := s) (x := x) (w := w) hM hMA hJ q3).trans (if_neg (not_not_intro dw))
  rw [← q1] at tm
  have ev : (if ¬ (0 ≤ x ∧ x < nI (dbE μ X (rd μ (X + 1))).1) then (-4000000000000 : Int64) else if w = 0 then ((dbE μ X (rd μ (X + 1))).2.2.1 x.toNatClampNeg).toInt32.toInt64 else if w = 1 then ((dbE μ X (rd μ (X + 1))).2.2.2.1 x.toNatClampNeg).toInt32.toInt64 else (dbE μ X (rd μ (X + 1))).2.2.2.2 x.toNatClampNeg) = (if ¬ (0 ≤ x ∧ x < nI (dbE μ X (rd μ (X + 1))).1) then -4000000000000 else if w = 0 then ((pdN (μ (M + 1)) p (ν (M + 9)) (ν (M + 10)) (ν (M + 11)) (ν (M + 12))).2.2.2.1 x.toNatClampNeg).toInt32.toInt64 else if w = 1 then ((pdN (μ (M + 1)) p (ν (M + 9)) (ν (M + 10)) (ν (M + 11)) (ν (M + 12))).2.2.2.2 x.toNatClampNeg).toInt32.toInt64 else (pdN (μ (M + 1)) p (ν (M + 9)) (ν (M + 10)) (ν (M + 11)) (ν (M + 12))).2.2.1 x.toNatClampNeg) := by
    by_cases dx : 0 ≤ x ∧ x < nI (dbE μ X (rd μ (X + 1))).1
    · rw [if_neg (not_not_intro dx), if_neg (not_not_intro dx)]
      have hx := i32_lt (by have := dbF_le 6 0 (va_cpy (wr μ (X + 1) (rd μ (X + 1)) (X + 1 + 2)) (wr μ (X + 1) (rd μ (X + 1)) (X + 459 + 1)) 0 0 6) (wr μ (X + 1) (rd μ (X + 1)) (X + 459 + 2)) (wr μ (X + 1) (rd μ (X + 1)) (X + 459 + 3)) (wr μ (X + 1) (rd μ (X + 1)) (X + 459 + 4)); exact Nat.lt_of_le_of_lt this (by decide)) dx.2 dx.1
      obtain ⟨r1, r2, r3⟩ := q2 _ hx
      rw [r1, r2, r3]
    · rw [if_pos dx, if_pos dx]
  rw [ev]
  rw [← h1] at tm ⊢
  exact ⟨_, tm, (Sf.dm hX).1, (Sf.dm hX).2⟩
end OPD
