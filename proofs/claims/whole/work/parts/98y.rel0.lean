/-! ===== A row of the class beside a row of the model ===== -/
def Live (a e f i b k : Nat) : Prop := k < 8 ∨ (9 ≤ k ∧ k < 9 + a) ∨ (13 ≤ k ∧ k < 13 + 6 * e) ∨ (73 ≤ k ∧ k < 73 + 6 * f) ∨ (109 ≤ k ∧ k < 109 + 4 * i) ∨ (125 ≤ k ∧ k < 125 + 5 * b) ∨ (185 ≤ k ∧ k < 191)
def Ag (a e f i b : Nat) (C D : Row) : Prop := ∀ k, Live a e f i b k → C k = D k
section REL0
variable {N a e f i b p : Nat} {C D E : Row} {k : Nat} {v w : Int64}
theorem Ag.put (h : Ag a e f i b C D) (hv : v = w) : Ag a e f i b (sv C k v) (sv D k w) := fun j hj => by
  rw [sv_get, sv_get]
  split
  · exact hv
  · exact h j hj
theorem Ag.puL (h : Ag a e f i b C D) (hk : ¬ Live a e f i b k) : Ag a e f i b (sv C k v) D := fun j hj => by
  rw [sv_get, if_neg (show ¬ j = k from fun q => hk (by rw [← q]; exact hj))]
  exact h j hj
theorem Ag.puR (h : Ag a e f i b C D) (hk : ¬ Live a e f i b k) : Ag a e f i b C (sv D k v) := fun j hj => by
  rw [sv_get, if_neg (show ¬ j = k from fun q => hk (by rw [← q]; exact hj))]
  exact h j hj
/-- numbers that stand at zero yet -/
def Zr (e f : Nat) (E : Row) : Prop := (∀ q, e ≤ q → q < 10 → E (13 + 6 * q) = 0 ∧ E (13 + 6 * q + 5) = 0) ∧ (∀ q, f ≤ q → q < 6 → E (73 + 6 * q) = 0 ∧ E (73 + 6 * q + 5) = 0) ∧ ∀ q, q < 6 → E (185 + q) = 0
/-- rows while a description is read -/
def RP (a e f i b p : Nat) (D E : Row) : Prop := J 1 a e f i b p E ∧ Ag a e f i b D E ∧ Zr e f E ∧ E 8 = 0 ∧ D 391 = 0 ∧ D 392 = 0
theorem le2_if2 {c c' : Prop} [Decidable c] [Decidable c'] {x y x' y' : Int × Int} (h1 : c → c' → le2 x x') (h2 : c → ¬ c' → le2 x y') (h3 : ¬ c → c' → le2 y x') (h4 : ¬ c → ¬ c' → le2 y y') : le2 (if c then x else y) (if c' then x' else y') := by
  by_cases h : c <;> by_cases h' : c'
  · rw [if_pos h, if_pos h']; exact h1 h h'
  · rw [if_pos h, if_neg h']; exact h2 h h'
  · rw [if_neg h, if_pos h']; exact h3 h h'
  · rw [if_neg h, if_neg h']; exact h4 h h'
theorem J.chg {a' e' f' i' b' p' : Nat} {D' : Row} (h : J N a e f i b p D) (hc : Jc a' e' f' i' b' p') (hk : ∀ k, IB (jB N a' e' f' i' b' p' k) (D' k) ∨ (D' k = D k ∧ le2 (jB N a e f i b p k) (jB N a' e' f' i' b' p' k))) : J N a' e' f' i' b' p' D' := by
  refine ⟨h.1, hc, fun k => ?_⟩
  rcases hk k with q | ⟨q1, q2⟩
  · exact q
  · rw [q1]
    exact ⟨Int.le_trans q2.1 (h.2.2 k).1, Int.le_trans (h.2.2 k).2 q2.2⟩
theorem jB_upA (hk : k ≠ 0) : le2 (jB N a e f i b p k) (jB N (a + 1) e f i b p k) := by
  unfold jB
  repeat' (first | (apply le2_ite <;> intro _) | (apply le2_if2 <;> intro _ _))
  all_goals (first | exact le2_rfl | (exfalso; omega) | (constructor <;> dsimp only <;> omega))
theorem jB_upE (hk : k ≠ 1) (h2 : k ≠ 13 + 6 * e + 4) : le2 (jB N a e f i b p k) (jB N a (e + 1) f i b p k) := by
  unfold jB
  repeat' (first | (apply le2_ite <;> intro _) | (apply le2_if2 <;> intro _ _))
  all_goals (first | exact le2_rfl | (exfalso; omega) | (constructor <;> dsimp only <;> omega))
theorem jB_upF (hk : k ≠ 2) (h1 : k ≠ 73 + 6 * f + 1) (h2 : k ≠ 73 + 6 * f + 4) : le2 (jB N a e f i b p k) (jB N a e (f + 1) i b p k) := by
  unfold jB
  repeat' (first | (apply le2_ite <;> intro _) | (apply le2_if2 <;> intro _ _))
  all_goals (first | exact le2_rfl | (exfalso; omega) | (constructor <;> dsimp only <;> omega))
theorem jB_upI (hk : k ≠ 3) (h1 : k ≠ 109 + 4 * i) (h2 : k ≠ 109 + 4 * i + 1) : le2 (jB N a e f i b p k) (jB N a e f (i + 1) b p k) := by
  unfold jB
  repeat' (first | (apply le2_ite <;> intro _) | (apply le2_if2 <;> intro _ _))
  all_goals (first | exact le2_rfl | (exfalso; omega) | (constructor <;> dsimp only <;> omega))
theorem jB_upB (hk : k ≠ 4) (h0 : k ≠ 125 + 5 * b) (h1 : k ≠ 125 + 5 * b + 1) (h2 : k ≠ 125 + 5 * b + 2) : le2 (jB N a e f i b p k) (jB N a e f i (b + 1) p k) := by
  unfold jB
  repeat' (first | (apply le2_ite <;> intro _) | (apply le2_if2 <;> intro _ _))
  all_goals (first | exact le2_rfl | (exfalso; omega) | (constructor <;> dsimp only <;> omega))
theorem IB_n {k : Nat} (hk : k < 2 ^ 31) : IB ((k : Int), (k : Int)) (nI k).toInt64 := by
  constructor <;> dsimp only <;> rw [nI64 hk] <;> omega
theorem J.upA (h : J N a e f i b p D) (ha : a < 4) : J N (a + 1) e f i b p (sv D 0 (nI (a + 1)).toInt64) := by
  refine h.chg ⟨by omega, h.2.1.2⟩ fun k => ?_
  by_cases hk : k = 0
  · left
    rw [hk, sv_get, if_pos rfl]
    exact IB_n (k := a + 1) (by omega)
  · right
    rw [sv_get, if_neg hk]
    exact ⟨rfl, jB_upA hk⟩
theorem J.upE (h : J N a e f i b p D) (he : e < 10) (ho : -1 ≤ (D (13 + 6 * e + 4)).toInt ∧ (D (13 + 6 * e + 4)).toInt ≤ (e : Int) - 1) : J N a (e + 1) f i b p (sv D 1 (nI (e + 1)).toInt64) := by
  refine h.chg ⟨h.2.1.1, by omega, h.2.1.2.2⟩ fun k => ?_
  by_cases hk : k = 1
  · left
    rw [hk, sv_get, if_pos rfl]
    exact IB_n (k := e + 1) (by omega)
  · rw [sv_get, if_neg hk]
    by_cases h2 : k = 13 + 6 * e + 4
    · left
      rw [h2, jB_E he (by decide)]
      simp only [Nat.reduceEqDiff, if_false, if_true, if_pos (Nat.lt_succ_self e)]
      exact ho
    · right
      exact ⟨rfl, jB_upE hk h2⟩
theorem J.upF (h : J N a e f i b p D) (hf : f < 6) (h1 : 1 ≤ (D (73 + 6 * f + 1)).toInt ∧ (D (73 + 6 * f + 1)).toInt ≤ 1000000) (h4 : 0 ≤ (D (73 + 6 * f + 4)).toInt ∧ (D (73 + 6 * f + 4)).toInt ≤ (a : Int) - 1) : J N a e (f + 1) i b p (sv D 2 (nI (f + 1)).toInt64) := by
  refine h.chg ⟨h.2.1.1, h.2.1.2.1, by omega, h.2.1.2.2.2⟩ fun k => ?_
  by_cases hk : k = 2
  · left
    rw [hk, sv_get, if_pos rfl]
    exact IB_n (k := f + 1) (by omega)
  · rw [sv_get, if_neg hk]
    by_cases h2 : k = 73 + 6 * f + 1
    · left
      rw [h2, jB_F hf (by decide)]
      simp only [Nat.reduceEqDiff, if_false, if_true, if_pos (Nat.lt_succ_self f)]
      exact h1
    · by_cases h3 : k = 73 + 6 * f + 4
      · left
        rw [h3, jB_F hf (by decide)]
        simp only [Nat.reduceEqDiff, if_false, if_true, if_pos (Nat.lt_succ_self f)]
        exact h4
      · right
        exact ⟨rfl, jB_upF hk h2 h3⟩
theorem J.upI (h : J N a e f i b p D) (hi : i < 4) (h0 : 0 ≤ (D (109 + 4 * i)).toInt ∧ (D (109 + 4 * i)).toInt ≤ (a : Int) - 1) (h1 : 1 ≤ (D (109 + 4 * i + 1)).toInt ∧ (D (109 + 4 * i + 1)).toInt ≤ 1000000) : J N a e f (i + 1) b p (sv D 3 (nI (i + 1)).toInt64) := by
  refine h.chg ⟨h.2.1.1, h.2.1.2.1, h.2.1.2.2.1, by omega, h.2.1.2.2.2.2⟩ fun k => ?_
  by_cases hk : k = 3
  · left
    rw [hk, sv_get, if_pos rfl]
    exact IB_n (k := i + 1) (by omega)
  · rw [sv_get, if_neg hk]
    by_cases h2 : k = 109 + 4 * i
    · left
      rw [h2]
      show IB (jB _ _ _ _ _ _ _ (109 + 4 * i + 0)) _
      rw [jB_I hi (by decide)]
      simp only [if_true, if_pos (Nat.lt_succ_self i)]
      exact h0
    · by_cases h3 : k = 109 + 4 * i + 1
      · left
        rw [h3, jB_I hi (by decide)]
        simp only [Nat.reduceEqDiff, if_false, if_true, if_pos (Nat.lt_succ_self i)]
        exact h1
      · right
        exact ⟨rfl, jB_upI hk h2 h3⟩
theorem J.upB (h : J N a e f i b p D) (hb : b < 12) (h0 : 0 ≤ (D (125 + 5 * b)).toInt ∧ (D (125 + 5 * b)).toInt ≤ (e : Int) - 1) (h1 : 0 ≤ (D (125 + 5 * b + 1)).toInt ∧ (D (125 + 5 * b + 1)).toInt ≤ (a : Int) - 1) (h2 : 1 ≤ (D (125 + 5 * b + 2)).toInt ∧ (D (125 + 5 * b + 2)).toInt ≤ 1000000) : J N a e f i (b + 1) p (sv D 4 (nI (b + 1)).toInt64) := by
  refine h.chg ⟨h.2.1.1, h.2.1.2.1, h.2.1.2.2.1, h.2.1.2.2.2.1, by omega, h.2.1.2.2.2.2.2⟩ fun k => ?_
  by_cases hk : k = 4
  · left
    rw [hk, sv_get, if_pos rfl]
    exact IB_n (k := b + 1) (by omega)
  · rw [sv_get, if_neg hk]
    by_cases g2 : k = 125 + 5 * b
    · left
      rw [g2]
      show IB (jB _ _ _ _ _ _ _ (125 + 5 * b + 0)) _
      rw [jB_Bl hb (by decide)]
      simp only [if_true, if_pos (Nat.lt_succ_self b)]
      exact h0
    · by_cases g3 : k = 125 + 5 * b + 1
      · left
        rw [g3, jB_Bl hb (by decide)]
        simp only [Nat.reduceEqDiff, if_false, if_true, if_pos (Nat.lt_succ_self b)]
        exact h1
      · by_cases g4 : k = 125 + 5 * b + 2
        · left
          rw [g4, jB_Bl hb (by decide)]
          simp only [Nat.reduceEqDiff, if_false, if_true, if_pos (Nat.lt_succ_self b)]
          exact h2
        · right
          exact ⟨rfl, jB_upB hk g2 g3 g4⟩
end REL0
