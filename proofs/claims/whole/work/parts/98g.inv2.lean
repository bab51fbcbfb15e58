/-! ===== What holds of a row, 2 ===== -/
theorem iv1 : (1 : Int64).toInt = 1 := rfl
theorem iv0 : (0 : Int64).toInt = 0 := rfl
theorem ivm1 : (-1 : Int64).toInt = -1 := rfl
theorem up_b {x m : Int64} (h1 : 1 ≤ x.toInt) (h2 : x.toInt ≤ 2 ^ 50) (m1 : 1 ≤ m.toInt) (m2 : m.toInt ≤ 2 ^ 50) : 0 ≤ ((x + m - 1) / m).toInt ∧ ((x + m - 1) / m).toInt ≤ x.toInt := by
  have e1 : (x + m).toInt = x.toInt + m.toInt := ia (by omega) (by omega)
  have e2 : (x + m - 1).toInt = x.toInt + m.toInt - 1 := by rw [is_ (by rw [e1, iv1]; omega) (by rw [e1, iv1]; omega), e1, iv1]
  have hx : 0 ≤ x.toInt + m.toInt - 1 := by omega
  have q1 : (x.toInt + m.toInt - 1) / m.toInt ≤ x.toInt := by
    apply Int.ediv_le_of_le_mul (by omega)
    have := Int.mul_nonneg (show 0 ≤ x.toInt - 1 by omega) (show 0 ≤ m.toInt - 1 by omega)
    rw [Int.sub_mul, Int.mul_sub, Int.one_mul, Int.mul_one] at this
    omega
  have q0 : 0 ≤ (x.toInt + m.toInt - 1) / m.toInt := Int.ediv_nonneg hx (by omega)
  have e3 : ((x + m - 1) / m).toInt = (x.toInt + m.toInt - 1) / m.toInt := by
    rw [Int64.toInt_div, e2, Int.tdiv_eq_ediv_of_nonneg hx]
    exact Int.bmod_eq_of_le (by omega) (by omega)
  rw [e3]
  exact ⟨q0, q1⟩
theorem mon_b {x : Int64} (h1 : -2 ^ 40 ≤ x.toInt) (h2 : x.toInt ≤ 2 ^ 40) : 1 ≤ (mx 1 (x / 30)).toInt ∧ (mx 1 (x / 30)).toInt ≤ 2 ^ 50 := by
  have e : (x / 30).toInt ≤ 2 ^ 40 := by
    rw [Int64.toInt_div, show (30 : Int64).toInt = 30 from rfl]
    by_cases h : 0 ≤ x.toInt
    · rw [Int.tdiv_eq_ediv_of_nonneg h, Int.bmod_eq_of_le (by omega) (by omega)]
      omega
    · have : x.toInt.tdiv 30 = -((-x.toInt) / 30) := by
        rw [← Int.tdiv_eq_ediv_of_nonneg (by omega : 0 ≤ -x.toInt), Int.neg_tdiv]
        omega
      rw [this, Int.bmod_eq_of_le (by omega) (by omega)]
      omega
  rw [mx_i, iv1]
  omega
section INV2
variable {N a e f i b p : Nat} {D : Row}
theorem J.fb (h : J N a e f i b p D) {q : Nat} (hq : q < 6) : -(1000000 * (N : Int)) ≤ (D (73 + 6 * q)).toInt ∧ (D (73 + 6 * q)).toInt ≤ 1000000 * N := by
  have hb := h.2.2 (73 + 6 * q + 0)
  rw [jB_F hq (by decide)] at hb
  exact hb
theorem J.ft (h : J N a e f i b p D) {q : Nat} (hq : q < 6) : 0 ≤ (D (73 + 6 * q + 1)).toInt ∧ (D (73 + 6 * q + 1)).toInt ≤ 1000000 := by
  have hb := h.2.2 (73 + 6 * q + 1)
  rw [jB_F hq (by decide)] at hb
  simp only [Nat.reduceEqDiff, if_false, if_true] at hb
  split at hb
  · have := hb.1; have := hb.2; dsimp only at *; omega
  · exact hb
theorem J.fn (h : J N a e f i b p D) {q : Nat} (hq : q < 6) : -1 ≤ (D (73 + 6 * q + 2)).toInt ∧ (D (73 + 6 * q + 2)).toInt ≤ 23000 + 500 * N := by
  have hb := h.2.2 (73 + 6 * q + 2)
  rw [jB_F hq (by decide)] at hb
  simp only [Nat.reduceEqDiff, if_false, if_true] at hb
  exact hb
theorem J.fg (h : J N a e f i b p D) {q : Nat} (hq : q < 6) : 0 ≤ (D (73 + 6 * q + 3)).toInt ∧ (D (73 + 6 * q + 3)).toInt ≤ 400 := by
  have hb := h.2.2 (73 + 6 * q + 3)
  rw [jB_F hq (by decide)] at hb
  simp only [Nat.reduceEqDiff, if_false, if_true] at hb
  exact hb
theorem J.fp (h : J N a e f i b p D) {q : Nat} (hq : q < 6) : 0 ≤ (D (73 + 6 * q + 5)).toInt ∧ (D (73 + 6 * q + 5)).toInt ≤ N := by
  have hb := h.2.2 (73 + 6 * q + 5)
  rw [jB_F hq (by decide)] at hb
  simp only [Nat.reduceEqDiff, if_false] at hb
  exact hb
theorem J.im (h : J N a e f i b p D) {q : Nat} (hq : q < 4) : 0 ≤ (D (109 + 4 * q + 1)).toInt ∧ (D (109 + 4 * q + 1)).toInt ≤ 1000000 := by
  have hb := h.2.2 (109 + 4 * q + 1)
  rw [jB_I hq (by decide)] at hb
  simp only [Nat.reduceEqDiff, if_false, if_true] at hb
  split at hb
  · have := hb.1; have := hb.2; dsimp only at *; omega
  · exact hb
theorem J.inx (h : J N a e f i b p D) {q : Nat} (hq : q < 4) : -1 ≤ (D (109 + 4 * q + 2)).toInt ∧ (D (109 + 4 * q + 2)).toInt ≤ 23000 + 500 * N := by
  have hb := h.2.2 (109 + 4 * q + 2)
  rw [jB_I hq (by decide)] at hb
  simp only [Nat.reduceEqDiff, if_false, if_true] at hb
  exact hb
theorem J.iev (h : J N a e f i b p D) {q : Nat} (hq : q < 4) : 0 ≤ (D (109 + 4 * q + 3)).toInt ∧ (D (109 + 4 * q + 3)).toInt ≤ 400 := by
  have hb := h.2.2 (109 + 4 * q + 3)
  rw [jB_I hq (by decide)] at hb
  simp only [Nat.reduceEqDiff, if_false] at hb
  exact hb
theorem J.bm (h : J N a e f i b p D) {q : Nat} (hq : q < 12) : 0 ≤ (D (125 + 5 * q + 2)).toInt ∧ (D (125 + 5 * q + 2)).toInt ≤ 1000000 := by
  have hb := h.2.2 (125 + 5 * q + 2)
  rw [jB_Bl hq (by decide)] at hb
  simp only [Nat.reduceEqDiff, if_false, if_true] at hb
  split at hb
  · have := hb.1; have := hb.2; dsimp only at *; omega
  · exact hb
theorem J.bn (h : J N a e f i b p D) {q : Nat} (hq : q < 12) : -1 ≤ (D (125 + 5 * q + 3)).toInt ∧ (D (125 + 5 * q + 3)).toInt ≤ 23000 + 500 * N := by
  have hb := h.2.2 (125 + 5 * q + 3)
  rw [jB_Bl hq (by decide)] at hb
  simp only [Nat.reduceEqDiff, if_false, if_true] at hb
  exact hb
theorem J.bv (h : J N a e f i b p D) {q : Nat} (hq : q < 12) : 0 ≤ (D (125 + 5 * q + 4)).toInt ∧ (D (125 + 5 * q + 4)).toInt ≤ 400 := by
  have hb := h.2.2 (125 + 5 * q + 4)
  rw [jB_Bl hq (by decide)] at hb
  simp only [Nat.reduceEqDiff, if_false] at hb
  exact hb
theorem pCvL_x {D : Row} {c q k : Nat} (hk : 73 ≤ k) (hq : q < 10) : ∀ (m : Nat) (D : Row) (o : Int32), Out D c → (o = -1 ∨ ∃ j, j < c ∧ o = nI j) → pCvL q m D o k = D k
  | 0, D, o, h, ho => rfl
  | m + 1, D, o, h, ho => by
    have hc := h.1
    rw [pCvL]
    split
    · rfl
    · rename_i hn
      obtain ⟨j, hj, rfl⟩ := ho.resolve_left hn
      rw [nI_clamp (by omega), pCvL_x (D := D) hk hq m _ _ (pCov_out h (fun f _ => by omega) (fun f _ => by omega)) ?_]
      · unfold pCov
        exact pShf_o (by omega) (by omega)
      · rcases h.2 j hj with w | ⟨u, w1, w2⟩
        · exact Or.inl w
        · exact Or.inr ⟨u, by omega, w2⟩
theorem pCvE_x {D : Row} {c q k : Nat} (h : Out D c) (hq : q < c) (hk : 73 ≤ k) : pCvE D q k = D k := by
  have hc := h.1
  unfold pCvE
  rw [show ∀ E : Row, pCov E (13 + 6 * q) 7 k = E k from fun E => by unfold pCov; exact pShf_o (by omega) (by omega)]
  refine pCvL_x (D := D) hk (by omega) 10 D _ h ?_
  rcases h.2 q hq with w | ⟨u, w1, w2⟩
  · exact Or.inl w
  · exact Or.inr ⟨u, by omega, w2⟩
theorem pTak_x {D : Row} {c q k : Nat} {v : Int64} (h : Out D c) (hq : q < c) (hk : 73 ≤ k) : pTak D q v k = D k := by
  have hc := h.1
  unfold pTak
  rw [pCvE_x ((h.sv (fun f _ => by omega)).sv (fun f _ => by omega)) hq hk, sv_get, if_neg (by omega), sv_get, if_neg (by omega)]
theorem pSpe_x {D : Row} {c q x k : Nat} {v : Int64} (h : Out D c) (hq : q < c) (hk : 73 ≤ k) (hx : x < 4) : pSpe D q x v k = D k := by
  unfold pSpe
  rw [pTak_x (h.sv (fun f _ => by omega)) hq hk, sv_get, if_neg (by omega)]
/-- the next day of what came -/
theorem nxt_b {x v : Int64} (hx : -1 ≤ x.toInt ∧ x.toInt ≤ 23000 + 500 * N) (hv : 0 ≤ v.toInt ∧ v.toInt ≤ 400) (hN : N < 2 ^ 20) : IB (-1, 23000 + 500 * ((N + 1 : Nat) : Int)) (if v = 0 then -1 else x + v) := by
  split
  · exact ⟨by rw [ivm1]; exact Int.le_refl _, by rw [ivm1]; dsimp only; omega⟩
  · have e : (x + v).toInt = x.toInt + v.toInt := ia (by omega) (by omega)
    constructor <;> dsimp only <;> rw [e] <;> omega
def acI (D : Row) (q : Nat) : Nat := (D (109 + 4 * q)).toInt32.toNatClampNeg
theorem acI_of {q k : Nat} (h : D (109 + 4 * q) = (nI k).toInt64) (hk : k < 2 ^ 31) : acI D q = k := by
  unfold acI
  rw [h, i64_32, nI_clamp hk]
def pInc (D : Row) (q : Nat) : Row := pLog (pCom2 (pCom1 D q (acI D q)) q) (lgQ D) 0 (nI q) (D (109 + 4 * q + 1)) 0
theorem J.inc (h : J N a e f i b p D) {q : Nat} (hq : q < i) (hN : N + 1 < 2 ^ 20) : J (N + 1) a e f i b p (pInc D q) := by
  obtain ⟨x, hx, hx2⟩ := h.iac hq
  have ha := h.2.1.1
  have hi := h.2.1.2.2.2.1
  have h4 : q < 4 := by omega
  have hm := h.im h4
  unfold pInc
  rw [acI_of hx2 (by omega)]
  have o2 : ∀ k, k ≠ 9 + x → k ≠ 7 → pCom1 D q x k = D k := fun k q1 q2 => by unfold pCom1; rw [sv_get, if_neg q2, sv_get, if_neg q1]
  have j1 : J (N + 1) a e f i b p (pCom1 D q x) := (h.acc (by omega) (by omega) hN).full jB_7
  have j2 : J (N + 1) a e f i b p (pCom2 (pCom1 D q x) q) := by
    unfold pCom2
    refine j1.put ?_
    rw [jB_I h4 (by decide), o2 _ (by omega) (by omega), o2 _ (by omega) (by omega)]
    simp only [Nat.reduceEqDiff, if_false, if_true]
    exact nxt_b (h.inx h4) (h.iev h4) h.1.2
  refine j2.log ?_
  unfold pCom2
  rw [sv_get, if_neg (by omega), o2 _ (by omega) (by omega)]
  exact h.l8.2
def acB (D : Row) (q : Nat) : Nat := (D (125 + 5 * q + 1)).toInt32.toNatClampNeg
def enB (D : Row) (q : Nat) : Nat := (D (125 + 5 * q)).toInt32.toNatClampNeg
theorem acB_of {q k : Nat} (h : D (125 + 5 * q + 1) = (nI k).toInt64) (hk : k < 2 ^ 31) : acB D q = k := by
  unfold acB
  rw [h, i64_32, nI_clamp hk]
theorem enB_of {q k : Nat} (h : D (125 + 5 * q) = (nI k).toInt64) (hk : k < 2 ^ 31) : enB D q = k := by
  unfold enB
  rw [h, i64_32, nI_clamp hk]
def pBl (D : Row) (q : Nat) : Row := pBil D (lgQ D) q (enB D q) (acB D q)
theorem J.bl (h : J N a e f i b p D) {q : Nat} (hq : q < b) (hN : N + 1 < 2 ^ 20) : J (N + 1) a e f i b p (pBl D q) := by
  obtain ⟨x, hx, hx2⟩ := h.ba hq
  obtain ⟨u, hu, hu2⟩ := h.be hq
  have ha := h.2.1.1
  have he := h.2.1.2.1
  have hi := h.2.1.2.2.2.2.1
  have h12 : q < 12 := by omega
  have hm := h.bm h12
  unfold pBl pBil
  rw [acB_of hx2 (by omega), enB_of hu2 (by omega)]
  have j1 : J (N + 1) a e f i b p (pSpe D u x (D (125 + 5 * q + 2))) := (h.acs (by omega) (by omega) hN).tak hu
  have j2 : J (N + 1) a e f i b p (pBil2 (pSpe D u x (D (125 + 5 * q + 2))) q) := by
    unfold pBil2
    refine j1.put ?_
    rw [jB_Bl h12 (by decide), pSpe_x h.out hu (by omega) (by omega), pSpe_x h.out hu (by omega) (by omega)]
    simp only [Nat.reduceEqDiff, if_false, if_true]
    exact nxt_b (h.bn h12) (h.bv h12) h.1.2
  refine j2.log ?_
  unfold pBil2
  rw [sv_get, if_neg (by omega), pSpe_o (fun f => by omega) (by omega) (by omega) (by omega)]
  exact h.l8.2
/-- what covers a lack -/
theorem cov_b {x w : Int64} (hx : -2 ^ 60 ≤ x.toInt ∧ x.toInt ≤ 2 ^ 60) : x.toInt ≤ (x + mn (mx 0 (-x)) (mx 0 w)).toInt ∧ (x + mn (mx 0 (-x)) (mx 0 w)).toInt ≤ max x.toInt 0 := by
  have e0 : (-x).toInt = -x.toInt := in_ (by omega)
  have e1 : (mn (mx 0 (-x)) (mx 0 w)).toInt = min (max 0 (-x.toInt)) (max 0 w.toInt) := by rw [mn_i, mx_i, mx_i, e0, iv0]
  have e2 : (x + mn (mx 0 (-x)) (mx 0 w)).toInt = x.toInt + (mn (mx 0 (-x)) (mx 0 w)).toInt := ia (by rw [e1]; omega) (by rw [e1]; omega)
  rw [e2, e1]
  omega
theorem J.fun_ (h : J N a e f i b p D) {q : Nat} (hq : q < f) (hN : N + 1 < 2 ^ 20) : J (N + 1) a e f i b p (pFun D (lgQ D) q (acF D q)) := by
  obtain ⟨x, hx, hx2⟩ := h.fa hq
  have ha := h.2.1.1
  have hf := h.2.1.2.2.1
  have h6 : q < 6 := by omega
  have ht := h.ft h6
  have hb := h.fb h6
  have hp := h.fp h6
  rw [acF_of hx2 (by omega)]
  unfold pFun
  have o1 : ∀ k, k ≠ 9 + x → pF1 D q x k = D k := fun k q1 => by unfold pF1; rw [sv_get, if_neg q1]
  have j1 : J (N + 1) a e f i b p (pF1 D q x) := h.acs (by omega) (by omega) hN
  have o2 : ∀ k, k ≠ 9 + x → k ≠ 73 + 6 * q → pF2 (pF1 D q x) q k = D k := fun k q1 q2 => by unfold pF2; rw [sv_get, if_neg q2, o1 _ q1]
  have e2 : (D (73 + 6 * q) - D (73 + 6 * q + 1)).toInt = (D (73 + 6 * q)).toInt - (D (73 + 6 * q + 1)).toInt := is_ (by omega) (by omega)
  have v2 : pF2 (pF1 D q x) q (73 + 6 * q) = D (73 + 6 * q) - D (73 + 6 * q + 1) := by
    unfold pF2
    rw [sv_get, if_pos rfl, o1 _ (by omega), o1 _ (by omega)]
  have j2 : J (N + 1) a e f i b p (pF2 (pF1 D q x) q) := by
    refine j1.put ?_
    rw [o1 _ (by omega), o1 _ (by omega)]
    show IB (jB _ a e f i b p (73 + 6 * q + 0)) _
    rw [jB_F h6 (by decide)]
    simp only [if_true]
    constructor <;> dsimp only <;> rw [e2] <;> omega
  generalize hE : pF2 (pF1 D q x) q = E at o2 v2 j2 ⊢
  have c3 := cov_b (x := E (73 + 6 * q)) (w := E 7) (by rw [v2, e2]; omega)
  have o3 : ∀ k, k ≠ 9 + x → k ≠ 73 + 6 * q → k ≠ 7 → pCov E (73 + 6 * q) 7 k = D k := fun k q1 q2 q3 => by
    unfold pCov
    rw [pShf_o q3 q2, o2 _ q1 q2]
  have j3 : J (N + 1) a e f i b p (pCov E (73 + 6 * q) 7) := by
    unfold pCov pShf
    refine (j2.full jB_7).put ?_
    rw [sv_get, if_neg (by omega)]
    show IB (jB _ a e f i b p (73 + 6 * q + 0)) _
    rw [jB_F h6 (by decide)]
    simp only [if_true]
    rw [v2, e2] at c3
    rw [v2]
    constructor <;> dsimp only <;> omega
  generalize pCov E (73 + 6 * q) 7 = H at o3 j3 ⊢
  have j4 : J (N + 1) a e f i b p (pF4 H q) := by
    refine j3.put ?_
    rw [o3 _ (by omega) (by omega) (by omega), jB_F h6 (by decide)]
    simp only [Nat.reduceEqDiff, if_false]
    have e5 : (D (73 + 6 * q + 5) + 1).toInt = (D (73 + 6 * q + 5)).toInt + 1 := ia (by rw [iv1]; omega) (by rw [iv1]; omega)
    constructor <;> dsimp only <;> rw [e5] <;> omega
  have o4 : ∀ k, k ≠ 9 + x → k ≠ 73 + 6 * q → k ≠ 7 → k ≠ 73 + 6 * q + 5 → pF4 H q k = D k := fun k q1 q2 q3 q4 => by
    unfold pF4
    rw [sv_get, if_neg q4, o3 _ q1 q2 q3]
  have j5 : J (N + 1) a e f i b p (pF5 (pF4 H q) (lgQ D) q) := j4.log (by rw [o4 _ (by omega) (by omega) (by omega) (by omega)]; exact h.l8.2)
  have o5 : ∀ k, 8 < k → k < 191 → pF5 (pF4 H q) (lgQ D) q k = pF4 H q k := fun k q1 q2 => by
    unfold pF5 pLog
    rw [sv_get, if_neg (by omega), sv_get, if_neg (by omega), sv_get, if_neg (by omega), sv_get, if_neg (by omega), sv_get, if_neg (by omega), sv_get, if_neg (by omega)]
  generalize pF5 (pF4 H q) (lgQ D) q = K at j5 o5 ⊢
  have e62 : K (73 + 6 * q + 2) = D (73 + 6 * q + 2) := by rw [o5 _ (by omega) (by omega), o4 _ (by omega) (by omega) (by omega) (by omega)]
  have e63 : K (73 + 6 * q + 3) = D (73 + 6 * q + 3) := by rw [o5 _ (by omega) (by omega), o4 _ (by omega) (by omega) (by omega) (by omega)]
  unfold pF6
  rw [e62, e63]
  split
  · rename_i hg
    refine j5.put ?_
    rw [jB_F h6 (by decide)]
    simp only [Nat.reduceEqDiff, if_false, if_true]
    have := nxt_b (N := N) (h.fn h6) (h.fg h6) h.1.2
    rw [if_neg (fun q => by rw [q] at hg; exact absurd hg (by decide))] at this
    exact this
  · have j6 : J (N + 1) a e f i b p (sv K (73 + 6 * q + 2) (-1)) := by
      refine j5.put ?_
      rw [jB_F h6 (by decide)]
      simp only [Nat.reduceEqDiff, if_false, if_true]
      exact ⟨by rw [ivm1]; exact Int.le_refl _, by rw [ivm1]; dsimp only; omega⟩
    generalize sv K (73 + 6 * q + 2) (-1) = K' at j6 ⊢
    unfold pShf
    refine J.full (j6.put ?_) jB_7
    show IB (jB _ a e f i b p (73 + 6 * q + 0)) _
    rw [jB_F h6 (by decide)]
    simp only [if_true]
    have hb' := j6.fb h6
    have e7 : (K' (73 + 6 * q) - K' (73 + 6 * q)).toInt = 0 := by rw [is_ (by omega) (by omega)]; omega
    constructor <;> dsimp only <;> rw [e7] <;> omega
/-- a fund's need -/
theorem pNed_b (h : J N a e f i b p D) {q : Nat} (hq : q < 6) : 0 ≤ (pNed D q).toInt ∧ (pNed D q).toInt ≤ max 0 ((D (73 + 6 * q + 1)).toInt - (D (73 + 6 * q)).toInt) := by
  have ht := h.ft hq
  have hb := h.fb hq
  have hn := h.fn hq
  have hd := h.d6
  have hN := h.1
  unfold pNed
  split
  · rw [iv0]; omega
  · rename_i hc
    have h1 : (D (73 + 6 * q)).toInt < (D (73 + 6 * q + 1)).toInt := by
      have := fun z => hc (Or.inr z)
      exact Int64.lt_iff_toInt_lt.mp (Int64.not_le.mp this)
    have e1 : (D (73 + 6 * q + 1) - D (73 + 6 * q)).toInt = (D (73 + 6 * q + 1)).toInt - (D (73 + 6 * q)).toInt := is_ (by omega) (by omega)
    have e2 : (D (73 + 6 * q + 2) - D 6).toInt = (D (73 + 6 * q + 2)).toInt - (D 6).toInt := is_ (by omega) (by omega)
    have e3 : (D (73 + 6 * q + 2) - D 6 + 30).toInt = (D (73 + 6 * q + 2)).toInt - (D 6).toInt + 30 := by rw [ia (by rw [e2, show (30 : Int64).toInt = 30 from rfl]; omega) (by rw [e2, show (30 : Int64).toInt = 30 from rfl]; omega), e2]; rfl
    have e4 : (D (73 + 6 * q + 2) - D 6 + 30 - 1).toInt = (D (73 + 6 * q + 2)).toInt - (D 6).toInt + 29 := by rw [is_ (by rw [e3, iv1]; omega) (by rw [e3, iv1]; omega), e3, iv1]; omega
    obtain ⟨m1, m2⟩ := mon_b (x := D (73 + 6 * q + 2) - D 6 + 30 - 1) (by rw [e4]; omega) (by rw [e4]; omega)
    have := up_b (x := D (73 + 6 * q + 1) - D (73 + 6 * q)) (m := mx 1 ((D (73 + 6 * q + 2) - D 6 + 30 - 1) / 30)) (by rw [e1]; omega) (by rw [e1]; omega) m1 m2
    rw [e1] at this
    omega
theorem J.getF (h : J N a e f i b p D) {q : Nat} (hq : q < 6) : J N a e f i b p (pGet D (73 + 6 * q) (pNed D q)) := by
  have hn := pNed_b h hq
  have hb := h.fb hq
  have ht := h.ft hq
  have hN := h.1
  unfold pGet pShf
  refine (h.full jB_7).put ?_
  rw [sv_get, if_neg (by omega)]
  show IB (jB _ a e f i b p (73 + 6 * q + 0)) _
  rw [jB_F hq (by decide)]
  simp only [if_true]
  have e1 : (mn (pNed D q) (mx 0 (D 7))).toInt = min (pNed D q).toInt (max 0 (D 7).toInt) := by rw [mn_i, mx_i, iv0]
  have e2 : (D (73 + 6 * q) + mn (pNed D q) (mx 0 (D 7))).toInt = (D (73 + 6 * q)).toInt + (mn (pNed D q) (mx 0 (D 7))).toInt := ia (by rw [e1]; omega) (by rw [e1]; omega)
  constructor <;> dsimp only <;> rw [e2, e1] <;> omega
theorem J.gs : ∀ (l : List Nat) (D : Row), J N a e f i b p D → (∀ g, g ∈ l → g < 6) → J N a e f i b p (pGs D l)
  | [], D, h, hl => h
  | g :: l, D, h, hl => J.gs l _ (h.getF (hl g List.mem_cons_self)) (fun g' hg => hl g' (List.mem_cons_of_mem _ hg))
theorem J.en (h : J N a e f i b p D) : ∀ k, k ≤ 10 → J N a e f i b p (pEn D k)
  | 0, _ => h
  | k + 1, hk => (J.en h k (by omega)).shf jB_7 (jB_e0 (by omega))
theorem J.all (h : J N a e f i b p D) : J N a e f i b p (pAll D e f) := by
  have hf := h.2.1.2.2.1
  exact (J.gs _ _ h (fun g hg => by have := (fl_mem.mp hg).1; omega)).en e h.2.1.2.1
theorem J.rla (h : J N a e f i b p D) : ∀ k, k ≤ 10 → J N a e f i b p (pRlA D k)
  | 0, _ => h
  | k + 1, hk => (J.rla h k (by omega)).shf (jB_e0 (by omega)) jB_7
noncomputable def pMon (D : Row) (cE cF : Nat) : Row := pLog (pAll (pRlA D cE) cE cF) (lgQ (pAll (pRlA D cE) cE cF)) 3 (-1) (pRlA D cE 7 - pAll (pRlA D cE) cE cF 7) 0
theorem pAll_o {cE cF k : Nat} (h7 : k ≠ 7) (hE : ∀ g, k ≠ 13 + 6 * g) (hF : ∀ g, k ≠ 73 + 6 * g) : pAll D cE cF k = D k := by
  unfold pAll
  rw [pEn_o h7 hE, pGs_o h7 hF]
theorem J.mon (h : J N a e f i b p D) (hN : N + 1 < 2 ^ 20) : J (N + 1) a e f i b p (pMon D e f) := by
  have h2 := (h.rla e h.2.1.2.1).all
  unfold pMon
  refine (h2.mono (Nat.le_succ N) hN).log ?_
  exact h2.l8.2
def pIncs (D : Row) : Nat → Row
  | 0 => D
  | q + 1 => if pIncs D q (109 + 4 * q + 2) = pIncs D q 6 then pInc (pIncs D q) q else pIncs D q
def pBils (D : Row) : Nat → Row
  | 0 => D
  | q + 1 => if pBils D q (125 + 5 * q + 3) = pBils D q 6 then pBl (pBils D q) q else pBils D q
theorem J.incs (h : J N a e f i b p D) : ∀ k, k ≤ i → N + k < 2 ^ 20 → J (N + k) a e f i b p (pIncs D k)
  | 0, _, _ => h
  | k + 1, hk, hN => by
    have q := J.incs h k (by omega) (by omega)
    rw [pIncs]
    split
    · exact q.inc (by omega) (by omega)
    · exact q.mono (by omega) hN
theorem J.bls (h : J N a e f i b p D) : ∀ k, k ≤ b → N + k < 2 ^ 20 → J (N + k) a e f i b p (pBils D k)
  | 0, _, _ => h
  | k + 1, hk, hN => by
    have q := J.bls h k (by omega) (by omega)
    rw [pBils]
    split
    · exact q.bl (by omega) (by omega)
    · exact q.mono (by omega) hN
theorem J.fns (h : J N a e f i b p D) : ∀ k, k ≤ f → N + k < 2 ^ 20 → J (N + k) a e f i b p (pFns D k)
  | 0, _, _ => h
  | k + 1, hk, hN => by
    have q := J.fns h k (by omega) (by omega)
    rw [pFns]
    split
    · exact q.fun_ (by omega) (by omega)
    · exact q.mono (by omega) hN
theorem J.fnOk (h : J N a e f i b p D) (hN : N + 6 < 2 ^ 20) {c : Nat} (hc : c ≤ f) : FnOk D c := by
  have hf := h.2.1.2.2.1
  have ha := h.2.1.1
  refine ⟨by omega, fun k hk => ?_⟩
  have q := J.fns h k (by omega) (by omega)
  refine ⟨q.lg, fun g hg => ?_⟩
  obtain ⟨x, hx, hx2⟩ := q.fa (q := g) (by omega)
  rw [acF_of hx2 (by omega), hx2, i64_32]
  exact ⟨rfl, by omega⟩
noncomputable def pMid (D : Row) (cE cF : Nat) : Row := if D 6 - D 6 / 30 * 30 = 0 then pMon D cE cF else D
noncomputable def pBeg (D : Row) (cE cF cI cB : Nat) : Row := pBils (pMid (pIncs (sv D 6 (D 6 + 1)) cI) cE cF) cB
noncomputable def pPas (D : Row) (cE cF cI cB : Nat) : Row := pFns (pBeg D cE cF cI cB) cF
theorem J.day (h : J N a e f i b p D) (hd : (D 6).toInt < 22000) : J N a e f i b p (sv D 6 (D 6 + 1)) := by
  have h6 := h.d6
  refine h.put ?_
  show IB (0, 22000) _
  have e1 : (D 6 + 1).toInt = (D 6).toInt + 1 := ia (by rw [iv1]; omega) (by rw [iv1]; omega)
  constructor <;> dsimp only <;> rw [e1] <;> omega
theorem J.mid (h : J N a e f i b p D) (hN : N + 1 < 2 ^ 20) : J (N + 1) a e f i b p (pMid D e f) := by
  unfold pMid
  split
  · exact h.mon hN
  · exact h.mono (Nat.le_succ N) hN
theorem J.beg (h : J N a e f i b p D) (hd : (D 6).toInt < 22000) (hN : N + 17 < 2 ^ 20) : J (N + 17) a e f i b p (pBeg D e f i b) := by
  have hi := h.2.1.2.2.2.1
  have hb := h.2.1.2.2.2.2.1
  have q1 := ((h.day hd).incs i (Nat.le_refl _) (by omega)).mid (by omega)
  exact (q1.bls b (Nat.le_refl _) (by omega)).mono (by omega) hN
theorem J.pas (h : J N a e f i b p D) (hd : (D 6).toInt < 22000) (hN : N + 23 < 2 ^ 20) : J (N + 23) a e f i b p (pPas D e f i b) := by
  have hf := h.2.1.2.2.1
  exact ((h.beg hd (by omega)).fns f (Nat.le_refl _) (by omega)).mono (by omega) hN
end INV2
