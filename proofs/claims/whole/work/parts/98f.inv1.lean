/-! ===== What holds of a row ===== -/
theorem ia {x y : Int64} (h1 : -2 ^ 63 ≤ x.toInt + y.toInt) (h2 : x.toInt + y.toInt < 2 ^ 63) : (x + y).toInt = x.toInt + y.toInt := by
  rw [Int64.toInt_add]
  exact Int.bmod_eq_of_le (by omega) (by omega)
theorem is_ {x y : Int64} (h1 : -2 ^ 63 ≤ x.toInt - y.toInt) (h2 : x.toInt - y.toInt < 2 ^ 63) : (x - y).toInt = x.toInt - y.toInt := by
  rw [Int64.toInt_sub]
  exact Int.bmod_eq_of_le (by omega) (by omega)
theorem in_ {x : Int64} (h1 : -2 ^ 63 < x.toInt) : (-x).toInt = -x.toInt := by
  have := Int64.toInt_lt x
  rw [Int64.toInt_neg]
  exact Int.bmod_eq_of_le (by omega) (by omega)
theorem iR (x : Int64) : -2 ^ 63 ≤ x.toInt ∧ x.toInt < 2 ^ 63 := ⟨Int64.le_toInt x, Int64.toInt_lt x⟩
theorem mx_i {x y : Int64} : (mx x y).toInt = max x.toInt y.toInt := by
  unfold mx
  split <;> rename_i h
  · have := Int64.lt_iff_toInt_lt.mp h; omega
  · have := Int64.le_iff_toInt_le.mp (Int64.not_lt.mp h); omega
theorem mn_i {x y : Int64} : (mn x y).toInt = min x.toInt y.toInt := by
  unfold mn
  split <;> rename_i h
  · have := Int64.lt_iff_toInt_lt.mp h; omega
  · have := Int64.le_iff_toInt_le.mp (Int64.not_lt.mp h); omega
theorem i64_ext {x y : Int64} (h : x.toInt = y.toInt) : x = y := Int64.toInt_inj.mp h
theorem nI64 {k : Nat} (h : k < 2 ^ 31) : ((nI k).toInt64).toInt = (k : Int) := by
  rw [Int32.toInt_toInt64]
  exact nI_toInt h
theorem i64_nat {x : Int64} (h0 : 0 ≤ x.toInt) (h1 : x.toInt < 2 ^ 31) : x = (nI x.toInt.toNat).toInt64 := by
  apply i64_ext
  rw [nI64 (by omega)]
  omega
theorem i64_32r {x : Int64} (h0 : -2 ^ 31 ≤ x.toInt) (h1 : x.toInt < 2 ^ 31) : x.toInt32.toInt64 = x := by
  apply i64_ext
  rw [Int32.toInt_toInt64, Int64.toInt_toInt32]
  exact Int.bmod_eq_of_le (by omega) (by omega)
def FU : Int × Int := (-9223372036854775808, 9223372036854775807)
/-- the bounds of a number of a row -/
def jB (N a e f i b p : Nat) (k : Nat) : Int × Int :=
  if k = 0 then (a, a) else if k = 1 then (e, e) else if k = 2 then (f, f) else if k = 3 then (i, i) else if k = 4 then (b, b) else if k = 5 then (p, p) else if k = 6 then (0, 22000)
  else if k = 7 then FU else if k = 8 then (0, N) else if k < 13 then (-(1000000 * N), 1000000 * N)
  else if k < 73 then
    (if (k - 13) % 6 = 1 then (0, 1000000) else if (k - 13) % 6 = 2 then (0, 2) else if (k - 13) % 6 = 3 then (0, 1000000) else if (k - 13) % 6 = 4 then (if (k - 13) / 6 < e then (-1, ((k - 13) / 6 : Nat) - 1) else (-1, 10)) else FU)
  else if k < 109 then
    (if (k - 73) % 6 = 0 then (-(1000000 * N), 1000000 * N) else if (k - 73) % 6 = 1 then (if (k - 73) / 6 < f then (1, 1000000) else (0, 1000000)) else if (k - 73) % 6 = 2 then (-1, 23000 + 500 * N) else if (k - 73) % 6 = 3 then (0, 400)
      else if (k - 73) % 6 = 4 then (if (k - 73) / 6 < f then (0, (a : Int) - 1) else (0, 3)) else (0, N))
  else if k < 125 then
    (if (k - 109) % 4 = 0 then (if (k - 109) / 4 < i then (0, (a : Int) - 1) else (0, 3)) else if (k - 109) % 4 = 1 then (if (k - 109) / 4 < i then (1, 1000000) else (0, 1000000)) else if (k - 109) % 4 = 2 then (-1, 23000 + 500 * N) else (0, 400))
  else if k < 185 then
    (if (k - 125) % 5 = 0 then (if (k - 125) / 5 < b then (0, (e : Int) - 1) else (0, 10)) else if (k - 125) % 5 = 1 then (if (k - 125) / 5 < b then (0, (a : Int) - 1) else (0, 3)) else if (k - 125) % 5 = 2 then (if (k - 125) / 5 < b then (1, 1000000) else (0, 1000000))
      else if (k - 125) % 5 = 3 then (-1, 23000 + 500 * N) else (0, 400))
  else if k < 191 then (if k - 185 < p then FU else (0, 0))
  else FU
def IB (w : Int × Int) (x : Int64) : Prop := w.1 ≤ x.toInt ∧ x.toInt ≤ w.2
def Jc (a e f i b p : Nat) : Prop := a ≤ 4 ∧ e ≤ 10 ∧ f ≤ 6 ∧ i ≤ 4 ∧ b ≤ 12 ∧ 1 ≤ p ∧ p ≤ 6
def J (N a e f i b p : Nat) (D : Row) : Prop := (1 ≤ N ∧ N < 2 ^ 20) ∧ Jc a e f i b p ∧ ∀ k, IB (jB N a e f i b p k) (D k)
section INV1
variable {N a e f i b p : Nat} {D : Row}
theorem J.put (h : J N a e f i b p D) {k : Nat} {v : Int64} (hv : IB (jB N a e f i b p k) v) : J N a e f i b p (sv D k v) := by
  refine ⟨h.1, h.2.1, fun j => ?_⟩
  rw [sv_get]
  split
  · rename_i hj
    rw [hj]
    exact hv
  · exact h.2.2 j
def le2 (w w' : Int × Int) : Prop := w'.1 ≤ w.1 ∧ w.2 ≤ w'.2
theorem le2_rfl {w : Int × Int} : le2 w w := ⟨Int.le_refl _, Int.le_refl _⟩
theorem le2_ite {c : Prop} [Decidable c] {x y x' y' : Int × Int} (h1 : c → le2 x x') (h2 : ¬ c → le2 y y') : le2 (if c then x else y) (if c then x' else y') := by
  by_cases h : c
  · rw [if_pos h, if_pos h]; exact h1 h
  · rw [if_neg h, if_neg h]; exact h2 h
theorem jB_mono {N' k : Nat} (hN : N ≤ N') : (jB N' a e f i b p k).1 ≤ (jB N a e f i b p k).1 ∧ (jB N a e f i b p k).2 ≤ (jB N' a e f i b p k).2 := by
  show le2 _ _
  unfold jB
  repeat' (apply le2_ite <;> intro _)
  all_goals (first | exact le2_rfl | (constructor <;> dsimp only <;> omega))
theorem J.mono (h : J N a e f i b p D) {N' : Nat} (hN : N ≤ N') (h2 : N' < 2 ^ 20) : J N' a e f i b p D :=
  ⟨⟨by have := h.1.1; omega, h2⟩, h.2.1, fun k => ⟨Int.le_trans (jB_mono hN).1 (h.2.2 k).1, Int.le_trans (h.2.2 k).2 (jB_mono hN).2⟩⟩
theorem jB_n {k : Nat} (h : 191 ≤ k) : jB N a e f i b p k = FU := by
  unfold jB
  rw [if_neg (by omega), if_neg (by omega), if_neg (by omega), if_neg (by omega), if_neg (by omega), if_neg (by omega), if_neg (by omega), if_neg (by omega), if_neg (by omega), if_neg (by omega), if_neg (by omega), if_neg (by omega), if_neg (by omega), if_neg (by omega), if_neg (by omega)]
theorem IB_full {x : Int64} : IB FU x := by
  have := iR x
  unfold IB FU
  constructor <;> dsimp only <;> omega
theorem jB_7 : jB N a e f i b p 7 = FU := rfl
theorem jB_a {x : Nat} (h : x < 4) : jB N a e f i b p (9 + x) = (-(1000000 * (N : Int)), 1000000 * (N : Int)) := by
  unfold jB
  rw [if_neg (by omega), if_neg (by omega), if_neg (by omega), if_neg (by omega), if_neg (by omega), if_neg (by omega), if_neg (by omega), if_neg (by omega), if_neg (by omega), if_pos (by omega)]
theorem jB_E {q r : Nat} (hq : q < 10) (hr : r < 6) : jB N a e f i b p (13 + 6 * q + r) = (if r = 1 then (0, 1000000) else if r = 2 then (0, 2) else if r = 3 then (0, 1000000) else if r = 4 then (if q < e then (-1, (q : Int) - 1) else (-1, 10)) else FU) := by
  have h1 : (13 + 6 * q + r - 13) % 6 = r := by omega
  have h2 : (13 + 6 * q + r - 13) / 6 = q := by omega
  unfold jB
  rw [if_neg (by omega), if_neg (by omega), if_neg (by omega), if_neg (by omega), if_neg (by omega), if_neg (by omega), if_neg (by omega), if_neg (by omega), if_neg (by omega), if_neg (by omega), if_pos (by omega), h1, h2]
theorem jB_F {q r : Nat} (hq : q < 6) (hr : r < 6) : jB N a e f i b p (73 + 6 * q + r) = (if r = 0 then (-(1000000 * (N : Int)), 1000000 * (N : Int)) else if r = 1 then (if q < f then (1, 1000000) else (0, 1000000)) else if r = 2 then (-1, 23000 + 500 * (N : Int)) else if r = 3 then (0, 400)
      else if r = 4 then (if q < f then (0, (a : Int) - 1) else (0, 3)) else (0, (N : Int))) := by
  have h1 : (73 + 6 * q + r - 73) % 6 = r := by omega
  have h2 : (73 + 6 * q + r - 73) / 6 = q := by omega
  unfold jB
  rw [if_neg (by omega), if_neg (by omega), if_neg (by omega), if_neg (by omega), if_neg (by omega), if_neg (by omega), if_neg (by omega), if_neg (by omega), if_neg (by omega), if_neg (by omega), if_neg (by omega), if_pos (by omega), h1, h2]
theorem jB_I {q r : Nat} (hq : q < 4) (hr : r < 4) : jB N a e f i b p (109 + 4 * q + r) = (if r = 0 then (if q < i then (0, (a : Int) - 1) else (0, 3)) else if r = 1 then (if q < i then (1, 1000000) else (0, 1000000)) else if r = 2 then (-1, 23000 + 500 * (N : Int)) else (0, 400)) := by
  have h1 : (109 + 4 * q + r - 109) % 4 = r := by omega
  have h2 : (109 + 4 * q + r - 109) / 4 = q := by omega
  unfold jB
  rw [if_neg (by omega), if_neg (by omega), if_neg (by omega), if_neg (by omega), if_neg (by omega), if_neg (by omega), if_neg (by omega), if_neg (by omega), if_neg (by omega), if_neg (by omega), if_neg (by omega), if_neg (by omega), if_pos (by omega), h1, h2]
theorem jB_Bl {q r : Nat} (hq : q < 12) (hr : r < 5) : jB N a e f i b p (125 + 5 * q + r) = (if r = 0 then (if q < b then (0, (e : Int) - 1) else (0, 10)) else if r = 1 then (if q < b then (0, (a : Int) - 1) else (0, 3)) else if r = 2 then (if q < b then (1, 1000000) else (0, 1000000)) else if r = 3 then (-1, 23000 + 500 * (N : Int)) else (0, 400)) := by
  have h1 : (125 + 5 * q + r - 125) % 5 = r := by omega
  have h2 : (125 + 5 * q + r - 125) / 5 = q := by omega
  unfold jB
  rw [if_neg (by omega), if_neg (by omega), if_neg (by omega), if_neg (by omega), if_neg (by omega), if_neg (by omega), if_neg (by omega), if_neg (by omega), if_neg (by omega), if_neg (by omega), if_neg (by omega), if_neg (by omega), if_neg (by omega), if_pos (by omega), h1, h2]
theorem jB_N {q : Nat} (hq : q < 6) : jB N a e f i b p (185 + q) = if q < p then FU else (0, 0) := by
  have h1 : 185 + q - 185 = q := by omega
  unfold jB
  rw [if_neg (by omega), if_neg (by omega), if_neg (by omega), if_neg (by omega), if_neg (by omega), if_neg (by omega), if_neg (by omega), if_neg (by omega), if_neg (by omega), if_neg (by omega), if_neg (by omega), if_neg (by omega), if_neg (by omega), if_neg (by omega), if_pos (by omega), h1]
-- the counts
theorem IB_nat {k : Nat} {x : Int64} (hk : k < 2 ^ 31) (h : IB ((k : Int), (k : Int)) x) : x = (nI k).toInt64 := i64_ext (by rw [nI64 hk]; have h1 := h.1; have h2 := h.2; dsimp only at h1 h2; omega)
theorem J.c0 (h : J N a e f i b p D) : D 0 = (nI a).toInt64 := IB_nat (by have := h.2.1.1; omega) (h.2.2 0)
theorem J.c1 (h : J N a e f i b p D) : D 1 = (nI e).toInt64 := IB_nat (by have := h.2.1.2.1; omega) (h.2.2 1)
theorem J.c2 (h : J N a e f i b p D) : D 2 = (nI f).toInt64 := IB_nat (by have := h.2.1.2.2.1; omega) (h.2.2 2)
theorem J.c3 (h : J N a e f i b p D) : D 3 = (nI i).toInt64 := IB_nat (by have := h.2.1.2.2.2.1; omega) (h.2.2 3)
theorem J.c4 (h : J N a e f i b p D) : D 4 = (nI b).toInt64 := IB_nat (by have := h.2.1.2.2.2.2.1; omega) (h.2.2 4)
theorem J.c5 (h : J N a e f i b p D) : D 5 = (nI p).toInt64 := IB_nat (by have := h.2.1.2.2.2.2.2.2; omega) (h.2.2 5)
theorem J.d6 (h : J N a e f i b p D) : 0 ≤ (D 6).toInt ∧ (D 6).toInt ≤ 22000 := h.2.2 6
theorem J.l8 (h : J N a e f i b p D) : 0 ≤ (D 8).toInt ∧ (D 8).toInt ≤ N := h.2.2 8
/-- an index that is held in a row -/
theorem ix_c {x : Int64} {c : Nat} (h0 : 0 ≤ x.toInt) (h1 : x.toInt ≤ (c : Int) - 1) (hc : c ≤ 400) : ∃ k, k < c ∧ x = (nI k).toInt64 := ⟨x.toInt.toNat, by omega, i64_nat h0 (by omega)⟩
theorem J.out (h : J N a e f i b p D) : Out D e := by
  refine ⟨h.2.1.2.1, fun q hq => ?_⟩
  have he := h.2.1.2.1
  have hb := h.2.2 (13 + 6 * q + 4)
  rw [jB_E (by omega) (by decide)] at hb
  simp only [Nat.reduceEqDiff, if_false, if_true, if_pos hq] at hb
  obtain ⟨h1, h2⟩ := hb
  dsimp only at h1 h2
  by_cases hz : (D (13 + 6 * q + 4)).toInt = -1
  · left
    have : D (13 + 6 * q + 4) = -1 := i64_ext (by rw [hz]; rfl)
    rw [this]
    rfl
  · right
    refine ⟨(D (13 + 6 * q + 4)).toInt.toNat, by omega, ?_⟩
    have := i64_nat (x := D (13 + 6 * q + 4)) (by omega) (by omega)
    rw [this, i64_32, nI64 (by omega)]
    rfl
theorem J.fa (h : J N a e f i b p D) {q : Nat} (hq : q < f) : ∃ k, k < a ∧ D (73 + 6 * q + 4) = (nI k).toInt64 := by
  have hf := h.2.1.2.2.1
  have ha := h.2.1.1
  have hb := h.2.2 (73 + 6 * q + 4)
  rw [jB_F (by omega) (by decide)] at hb
  simp only [Nat.reduceEqDiff, if_false, if_true, if_pos hq] at hb
  exact ix_c hb.1 hb.2 (by omega)
theorem J.iac (h : J N a e f i b p D) {q : Nat} (hq : q < i) : ∃ k, k < a ∧ D (109 + 4 * q) = (nI k).toInt64 := by
  have hf := h.2.1.2.2.2.1
  have ha := h.2.1.1
  have hb := h.2.2 (109 + 4 * q + 0)
  rw [jB_I (by omega) (by decide)] at hb
  simp only [if_true, if_pos hq] at hb
  exact ix_c hb.1 hb.2 (by omega)
theorem J.ba (h : J N a e f i b p D) {q : Nat} (hq : q < b) : ∃ k, k < a ∧ D (125 + 5 * q + 1) = (nI k).toInt64 := by
  have hf := h.2.1.2.2.2.2.1
  have ha := h.2.1.1
  have hb := h.2.2 (125 + 5 * q + 1)
  rw [jB_Bl (by omega) (by decide)] at hb
  simp only [Nat.reduceEqDiff, if_false, if_true, if_pos hq] at hb
  exact ix_c hb.1 hb.2 (by omega)
theorem J.be (h : J N a e f i b p D) {q : Nat} (hq : q < b) : ∃ k, k < e ∧ D (125 + 5 * q) = (nI k).toInt64 := by
  have hf := h.2.1.2.2.2.2.1
  have ha := h.2.1.2.1
  have hb := h.2.2 (125 + 5 * q + 0)
  rw [jB_Bl (by omega) (by decide)] at hb
  simp only [if_true, if_pos hq] at hb
  exact ix_c hb.1 hb.2 (by omega)
theorem lgq_n {x : Int64} (h0 : 0 ≤ x.toInt) (h1 : x.toInt < 2 ^ 31) : (x - x / 40 * 40).toInt32 = nI (x.toInt.toNat % 40) ∧ x.toInt.toNat % 40 < 40 := by
  refine ⟨?_, Nat.mod_lt _ (by decide)⟩
  have e1 : (x / 40).toInt = x.toInt / 40 := by
    rw [Int64.toInt_div, show (40 : Int64).toInt = 40 from rfl, Int.tdiv_eq_ediv_of_nonneg h0]
    exact Int.bmod_eq_of_le (by omega) (by omega)
  have e2 : (x / 40 * 40).toInt = x.toInt / 40 * 40 := by
    rw [Int64.toInt_mul, e1, show (40 : Int64).toInt = 40 from rfl]
    exact Int.bmod_eq_of_le (by omega) (by omega)
  have e3 : (x - x / 40 * 40).toInt = x.toInt % 40 := by
    rw [is_ (by omega) (by omega), e2]
    omega
  have e4 := i64_nat (x := x - x / 40 * 40) (by omega) (by omega)
  rw [e4, i64_32, e3]
  congr 1
  omega
theorem J.lg (h : J N a e f i b p D) : LgH D (lgQ D) := by
  obtain ⟨h1, h2⟩ := h.l8
  have hN := h.1
  obtain ⟨q1, q2⟩ := lgq_n (x := D 8) h1 (by omega)
  unfold lgQ LgH
  rw [q1, nI_clamp (by omega)]
  exact ⟨rfl, q2⟩
theorem acF_of {q k : Nat} (h : D (73 + 6 * q + 4) = (nI k).toInt64) (hk : k < 2 ^ 31) : acF D q = k := by
  unfold acF
  rw [h, i64_32, nI_clamp hk]
-- what the model does keeps it
theorem J.full (h : J N a e f i b p D) {k : Nat} {v : Int64} (hk : jB N a e f i b p k = FU) : J N a e f i b p (sv D k v) := h.put (by rw [hk]; exact IB_full)
theorem jB_e0 {q : Nat} (hq : q < 10) : jB N a e f i b p (13 + 6 * q) = FU := jB_E (r := 0) hq (by decide)
theorem jB_e5 {q : Nat} (hq : q < 10) : jB N a e f i b p (13 + 6 * q + 5) = FU := jB_E (r := 5) hq (by decide)
theorem J.shf (h : J N a e f i b p D) {j k : Nat} {v : Int64} (hj : jB N a e f i b p j = FU) (hk : jB N a e f i b p k = FU) : J N a e f i b p (pShf D j k v) := (h.full hj).full hk
theorem J.cvL {q : Nat} (hq : q < e) : ∀ (m : Nat) (D : Row) (o : Int32), J N a e f i b p D → (o = -1 ∨ ∃ j, j < e ∧ o = nI j) → J N a e f i b p (pCvL q m D o)
  | 0, D, o, h, ho => h
  | m + 1, D, o, h, ho => by
    have he := h.2.1.2.1
    rw [pCvL]
    split
    · exact h
    · rename_i hn
      obtain ⟨j, hj, rfl⟩ := ho.resolve_left hn
      rw [nI_clamp (by omega)]
      refine J.cvL hq m _ _ (h.shf (jB_e0 (by omega)) (jB_e0 (by omega))) ?_
      rcases h.out.2 j hj with w | ⟨u, w1, w2⟩
      · exact Or.inl w
      · exact Or.inr ⟨u, by omega, w2⟩
theorem J.cvE (h : J N a e f i b p D) {q : Nat} (hq : q < e) : J N a e f i b p (pCvE D q) := by
  have he := h.2.1.2.1
  unfold pCvE
  refine J.shf (J.cvL hq 10 D _ h ?_) jB_7 (jB_e0 (by omega))
  rcases h.out.2 q hq with w | ⟨u, w1, w2⟩
  · exact Or.inl w
  · exact Or.inr ⟨u, by omega, w2⟩
theorem J.tak (h : J N a e f i b p D) {q : Nat} (hq : q < e) {v : Int64} : J N a e f i b p (pTak D q v) := by
  have he := h.2.1.2.1
  unfold pTak
  exact J.cvE (J.full (J.full h (jB_e0 (q := q) (by omega))) (jB_e5 (q := q) (by omega))) hq
theorem J.acc (h : J N a e f i b p D) {x : Nat} (hx : x < 4) {v : Int64} (hv : -1000000 ≤ v.toInt ∧ v.toInt ≤ 1000000) (hN : N + 1 < 2 ^ 20) : J (N + 1) a e f i b p (sv D (9 + x) (D (9 + x) + v)) := by
  have hb := h.2.2 (9 + x)
  rw [jB_a hx] at hb
  obtain ⟨h1, h2⟩ := hb
  dsimp only at h1 h2
  refine (h.mono (Nat.le_succ N) hN).put ?_
  rw [jB_a hx]
  constructor <;> dsimp only <;> rw [ia (by omega) (by omega)] <;> omega
theorem J.acs (h : J N a e f i b p D) {x : Nat} (hx : x < 4) {v : Int64} (hv : -1000000 ≤ v.toInt ∧ v.toInt ≤ 1000000) (hN : N + 1 < 2 ^ 20) : J (N + 1) a e f i b p (sv D (9 + x) (D (9 + x) - v)) := by
  have hb := h.2.2 (9 + x)
  rw [jB_a hx] at hb
  obtain ⟨h1, h2⟩ := hb
  dsimp only at h1 h2
  refine (h.mono (Nat.le_succ N) hN).put ?_
  rw [jB_a hx]
  constructor <;> dsimp only <;> rw [is_ (by omega) (by omega)] <;> omega
/-- an entry: the count of entries alone may grow -/
theorem J.log (h : J (N + 1) a e f i b p D) (h8 : (D 8).toInt ≤ N) {q : Nat} {k z : Int32} {x u : Int64} : J (N + 1) a e f i b p (pLog D q k z x u) := by
  obtain ⟨g1, g2⟩ := h.l8
  have hN := h.1
  unfold pLog
  refine J.put (((((h.full (jB_n (by omega))).full (jB_n (by omega))).full (jB_n (by omega))).full (jB_n (by omega))).full (jB_n (by omega))) ?_
  show IB (0, ((N + 1 : Nat) : Int)) _
  have e1 : (D 8 + 1).toInt = (D 8).toInt + 1 := ia (by rw [show (1 : Int64).toInt = 1 from rfl]; omega) (by rw [show (1 : Int64).toInt = 1 from rfl]; omega)
  constructor <;> dsimp only <;> rw [e1] <;> omega
end INV1
