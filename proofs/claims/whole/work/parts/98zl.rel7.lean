/-! ===== Relation of the rows, 7: copies; days; what is kept at each step ===== -/
section REL7
variable {N a e f i b p : Nat} {C D Z : Row} {k : Nat} {v w : Int64}
theorem kCpE_in : ∀ c q r, q < c → r < 6 → kCpE Z C c (13 + 6 * q + r) = if r = 0 ∨ r = 5 then C (13 + 6 * q + r) else cI (C (13 + 6 * q + r))
  | 0, q, r, h, _ => absurd h (Nat.not_lt_zero _)
  | c + 1, q, r, h, hr => by
    rw [kCpE]
    simp only [sv_get]
    by_cases hq : q = c
    · subst hq
      have hr' : r = 0 ∨ r = 1 ∨ r = 2 ∨ r = 3 ∨ r = 4 ∨ r = 5 := by omega
      rcases hr' with rfl | rfl | rfl | rfl | rfl | rfl <;> (repeat (first | rw [if_pos (by omega)] | rw [if_neg (by omega)])) <;> rfl
    · have ih := kCpE_in c q r (by omega) hr
      rw [if_neg (by omega), if_neg (by omega), if_neg (by omega), if_neg (by omega), if_neg (by omega), if_neg (by omega)]
      exact ih
theorem kCpE_out : ∀ c k, (k < 13 ∨ 13 + 6 * c ≤ k) → kCpE Z C c k = Z k
  | 0, k, _ => rfl
  | c + 1, k, h => by
    rw [kCpE]
    simp only [sv_get]
    rw [if_neg (by omega), if_neg (by omega), if_neg (by omega), if_neg (by omega), if_neg (by omega), if_neg (by omega)]
    exact kCpE_out c k (by omega)
theorem kCpF_in : ∀ c q r, q < c → r < 6 → kCpF Z C c (73 + 6 * q + r) = if r = 0 then C (73 + 6 * q + r) else cI (C (73 + 6 * q + r))
  | 0, q, r, h, _ => absurd h (Nat.not_lt_zero _)
  | c + 1, q, r, h, hr => by
    rw [kCpF]
    simp only [sv_get]
    by_cases hq : q = c
    · subst hq
      have hr' : r = 0 ∨ r = 1 ∨ r = 2 ∨ r = 3 ∨ r = 4 ∨ r = 5 := by omega
      rcases hr' with rfl | rfl | rfl | rfl | rfl | rfl <;> (repeat (first | rw [if_pos (by omega)] | rw [if_neg (by omega)])) <;> rfl
    · have ih := kCpF_in c q r (by omega) hr
      rw [if_neg (by omega), if_neg (by omega), if_neg (by omega), if_neg (by omega), if_neg (by omega), if_neg (by omega)]
      exact ih
theorem kCpF_out : ∀ c k, (k < 73 ∨ 73 + 6 * c ≤ k) → kCpF Z C c k = Z k
  | 0, k, _ => rfl
  | c + 1, k, h => by
    rw [kCpF]
    simp only [sv_get]
    rw [if_neg (by omega), if_neg (by omega), if_neg (by omega), if_neg (by omega), if_neg (by omega), if_neg (by omega)]
    exact kCpF_out c k (by omega)
theorem kCpI_in : ∀ c q r, c ≤ 4 → q < c → r < 4 → kCpI Z C c (109 + 4 * q + r) = cI (C (109 + 4 * q + r))
  | 0, q, r, _, h, _ => absurd h (Nat.not_lt_zero _)
  | c + 1, q, r, h4, h, hr => by
    rw [kCpI]
    simp only [sv_get]
    by_cases hq : q = c
    · subst hq
      have hr' : r = 0 ∨ r = 1 ∨ r = 2 ∨ r = 3 := by omega
      rcases hr' with rfl | rfl | rfl | rfl <;> (repeat (first | rw [if_pos (by omega)] | rw [if_neg (by omega)])) <;> rfl
    · have ih := kCpI_in c q r (by omega) (by omega) hr
      rw [if_neg (by omega), if_neg (by omega), if_neg (by omega), if_neg (by omega), if_neg (by omega)]
      exact ih
theorem kCpI_out : ∀ c k, c ≤ 4 → (k < 109 ∨ (109 + 4 * c ≤ k ∧ k < 400)) → kCpI Z C c k = Z k
  | 0, k, _, _ => rfl
  | c + 1, k, h4, h => by
    rw [kCpI]
    simp only [sv_get]
    rw [if_neg (by omega), if_neg (by omega), if_neg (by omega), if_neg (by omega), if_neg (by omega)]
    exact kCpI_out c k (by omega) (by omega)
theorem kCpB_in : ∀ c q r, q < c → r < 5 → kCpB Z C c (125 + 5 * q + r) = cI (C (125 + 5 * q + r))
  | 0, q, r, h, _ => absurd h (Nat.not_lt_zero _)
  | c + 1, q, r, h, hr => by
    rw [kCpB]
    simp only [sv_get]
    by_cases hq : q = c
    · subst hq
      have hr' : r = 0 ∨ r = 1 ∨ r = 2 ∨ r = 3 ∨ r = 4 := by omega
      rcases hr' with rfl | rfl | rfl | rfl | rfl <;> (repeat (first | rw [if_pos (by omega)] | rw [if_neg (by omega)])) <;> rfl
    · have ih := kCpB_in c q r (by omega) hr
      rw [if_neg (by omega), if_neg (by omega), if_neg (by omega), if_neg (by omega), if_neg (by omega)]
      exact ih
theorem kCpB_out : ∀ c k, (k < 125 ∨ 125 + 5 * c ≤ k) → kCpB Z C c k = Z k
  | 0, k, _ => rfl
  | c + 1, k, h => by
    rw [kCpB]
    simp only [sv_get]
    rw [if_neg (by omega), if_neg (by omega), if_neg (by omega), if_neg (by omega), if_neg (by omega)]
    exact kCpB_out c k (by omega)
theorem cI_r {x : Int64} (h0 : -2 ^ 31 ≤ x.toInt) (h1 : x.toInt < 2 ^ 31) : cI x = x := i64_32r h0 h1
theorem AL.cpy (hJ : J N a e f i b p D) (h : AL a e f i b C D) : AL a e f i b (kCpy Z C) D := by
  have hO := h.ct hJ
  have hc := hJ.2.1
  have hN0 := hJ.1
  unfold Jc at hc
  unfold kCpy
  rw [hO.1.cn1, hO.1.cn2, hO.1.cn3, hO.1.cn4]
  unfold kCopy kCpL
  constructor
  · intro k hk
    have hk2 := hk
    unfold Live at hk2
    have hC := h.g hk
    rw [sv_get, if_neg (by omega), sv_get, if_neg (by omega)]
    unfold cpR
    rw [if_neg (by omega)]
    rcases hk2 with hk2 | hk2 | hk2 | hk2 | hk2 | hk2 | hk2
    · rw [kCpB_out _ _ (by omega), kCpI_out _ _ (by omega) (by omega), kCpF_out _ _ (by omega), kCpE_out _ _ (by omega)]
      unfold kCp1 cpR
      rw [if_neg (by omega), if_neg (by omega)]
      unfold kCp0
      simp only [sv_get]
      have c0 := hJ.c0
      have c1 := hJ.c1
      have c2 := hJ.c2
      have c3 := hJ.c3
      have c4 := hJ.c4
      have c5 := hJ.c5
      have d6 := hJ.d6
      have cc : ∀ m : Nat, cI (nI m).toInt64 = (nI m).toInt64 := fun m => by unfold cI; rw [i64_32]
      have hk' : k = 0 ∨ k = 1 ∨ k = 2 ∨ k = 3 ∨ k = 4 ∨ k = 5 ∨ k = 6 ∨ k = 7 := by omega
      rcases hk' with rfl | rfl | rfl | rfl | rfl | rfl | rfl | rfl <;> (repeat (first | rw [if_pos (by omega)] | rw [if_neg (by omega)]))
      · rw [hC, c0, cc]
      · rw [hC, c1, cc]
      · rw [hC, c2, cc]
      · rw [hC, c3, cc]
      · rw [hC, c4, cc]
      · rw [hC, c5, cc]
      · rw [hC, cI_r (by omega) (by omega)]
      · exact hC
    · rw [kCpB_out _ _ (by omega), kCpI_out _ _ (by omega) (by omega), kCpF_out _ _ (by omega), kCpE_out _ _ (by omega)]
      unfold kCp1 cpR
      rw [if_neg (by omega), if_pos (by omega)]
      show C (9 + (k - 9)) = D k
      rw [show 9 + (k - 9) = k by omega]
      exact hC
    · obtain ⟨q, r, hq, hr, rfl⟩ : ∃ q r, q < e ∧ r < 6 ∧ k = 13 + 6 * q + r := ⟨(k - 13) / 6, (k - 13) % 6, by omega, by omega, by omega⟩
      rw [kCpB_out _ _ (by omega), kCpI_out _ _ (by omega) (by omega), kCpF_out _ _ (by omega), kCpE_in _ _ _ hq hr, hC]
      have hb := hJ.2.2 (13 + 6 * q + r)
      rw [jB_E (by omega) hr] at hb
      unfold IB at hb
      have hr' : r = 0 ∨ r = 1 ∨ r = 2 ∨ r = 3 ∨ r = 4 ∨ r = 5 := by omega
      rcases hr' with rfl | rfl | rfl | rfl | rfl | rfl
      · rfl
      all_goals simp only [Nat.reduceEqDiff, if_false, if_true, hq] at hb
      · exact cI_r (by omega) (by omega)
      · exact cI_r (by omega) (by omega)
      · exact cI_r (by omega) (by omega)
      · exact cI_r (by omega) (by omega)
      · rfl
    · obtain ⟨q, r, hq, hr, rfl⟩ : ∃ q r, q < f ∧ r < 6 ∧ k = 73 + 6 * q + r := ⟨(k - 73) / 6, (k - 73) % 6, by omega, by omega, by omega⟩
      rw [kCpB_out _ _ (by omega), kCpI_out _ _ (by omega) (by omega), kCpF_in _ _ _ hq hr, hC]
      have hb := hJ.2.2 (73 + 6 * q + r)
      rw [jB_F (by omega) hr] at hb
      unfold IB at hb
      have hr' : r = 0 ∨ r = 1 ∨ r = 2 ∨ r = 3 ∨ r = 4 ∨ r = 5 := by omega
      rcases hr' with rfl | rfl | rfl | rfl | rfl | rfl
      · rfl
      all_goals simp only [Nat.reduceEqDiff, if_false, if_true, hq] at hb
      all_goals exact cI_r (by omega) (by omega)
    · obtain ⟨q, r, hq, hr, rfl⟩ : ∃ q r, q < i ∧ r < 4 ∧ k = 109 + 4 * q + r := ⟨(k - 109) / 4, (k - 109) % 4, by omega, by omega, by omega⟩
      rw [kCpB_out _ _ (by omega), kCpI_in _ _ _ (by omega) hq hr, hC]
      have hb := hJ.2.2 (109 + 4 * q + r)
      rw [jB_I (by omega) hr] at hb
      unfold IB at hb
      have hr' : r = 0 ∨ r = 1 ∨ r = 2 ∨ r = 3 := by omega
      rcases hr' with rfl | rfl | rfl | rfl
      all_goals simp only [Nat.reduceEqDiff, if_false, if_true, hq] at hb
      all_goals exact cI_r (by omega) (by omega)
    · obtain ⟨q, r, hq, hr, rfl⟩ : ∃ q r, q < b ∧ r < 5 ∧ k = 125 + 5 * q + r := ⟨(k - 125) / 5, (k - 125) % 5, by omega, by omega, by omega⟩
      rw [kCpB_in _ _ _ hq hr, hC]
      have hb := hJ.2.2 (125 + 5 * q + r)
      rw [jB_Bl (by omega) hr] at hb
      unfold IB at hb
      have hr' : r = 0 ∨ r = 1 ∨ r = 2 ∨ r = 3 ∨ r = 4 := by omega
      rcases hr' with rfl | rfl | rfl | rfl | rfl
      all_goals simp only [Nat.reduceEqDiff, if_false, if_true, hq] at hb
      all_goals exact cI_r (by omega) (by omega)
    · rw [kCpB_out _ _ (by omega), kCpI_out _ _ (by omega) (by omega), kCpF_out _ _ (by omega), kCpE_out _ _ (by omega)]
      unfold kCp1 cpR
      rw [if_pos (by omega)]
      show C (185 + (k - 185)) = D k
      rw [show 185 + (k - 185) = k by omega]
      exact hC
  · obtain ⟨l, h0, h1, h2, h3, h4⟩ := h.2
    refine ⟨l, h0, h1, ?_, ?_, fun q hq w hw => ?_⟩
    · rw [sv_get, if_neg (by omega), sv_get, if_pos rfl]
      unfold cI
      rw [i64_32]
      exact h2
    · rw [sv_get, if_pos rfl]
      unfold cI
      rw [i64_32]
      exact h3
    · rw [sv_get, if_neg (by omega), sv_get, if_neg (by omega)]
      unfold cpR
      rw [if_pos (by omega), ← h4 q hq w hw]
      show C (191 + (191 + 5 * ((q + 1) % 40) + w - 191)) = _
      rw [show 191 + (191 + 5 * ((q + 1) % 40) + w - 191) = 191 + 5 * ((q + 1) % 40) + w by omega]
theorem AL.vx {C' : Row} (hc : Jc a e f i b p) (h : AL a e f i b C D) (hv : ∀ k, vix k → C' k = C k) : AL a e f i b C' D := by
  unfold Jc at hc
  refine ⟨fun k hk => ?_, ?_⟩
  · rw [hv k ?_]
    · exact h.g hk
    · unfold Live at hk
      unfold vix
      omega
  · obtain ⟨l, h0, h1, h2, h3, h4⟩ := h.2
    refine ⟨l, h0, h1, ?_, ?_, fun q hq w hw => ?_⟩
    · rw [hv 391 (by unfold vix; omega)]; exact h2
    · rw [hv 392 (by unfold vix; omega)]; exact h3
    · rw [hv _ (by unfold vix; omega)]; exact h4 q hq w hw
theorem AL.dx {D' : Row} (hc : Jc a e f i b p) (h : AL a e f i b C D) (hv : R391 D' D) : AL a e f i b C D' := by
  unfold Jc at hc
  refine ⟨fun k hk => ?_, ?_⟩
  · rw [hv k ?_]
    · exact h.g hk
    · unfold Live at hk
      omega
  · obtain ⟨l, h0, h1, h2, h3, h4⟩ := h.2
    refine ⟨l, h0, ?_, h2, h3, fun q hq w hw => ?_⟩
    · rw [hv 8 (by omega)]; exact h1
    · rw [hv _ (by omega)]; exact h4 q hq w hw
/-- rows of a moment, by how many calls there were -/
def PR (k : Nat) (C D : Row) : Prop := ∃ a e f i b p, J (23 * (D 6).toInt.toNat + k + 1) a e f i b p D ∧ AL a e f i b C D ∧ (D 6).toInt ≤ 20000
theorem PR.mono {k k' : Nat} (h : PR k C D) (hk : k ≤ k') (h2 : k' ≤ 1000) : PR k' C D := by
  obtain ⟨a, e, f, i, b, p, h0, h1, h3⟩ := h
  exact ⟨a, e, f, i, b, p, h0.mono (by omega) (by omega), h1, h3⟩
theorem PR.cpy {k : Nat} (h : PR k C D) : PR k (kCpy Z C) D := by
  obtain ⟨a, e, f, i, b, p, h0, h1, h3⟩ := h
  exact ⟨a, e, f, i, b, p, h0, h1.cpy h0, h3⟩
theorem PR.vx {k : Nat} {C' : Row} (h : PR k C D) (hv : ∀ k, vix k → C' k = C k) : PR k C' D := by
  obtain ⟨a, e, f, i, b, p, h0, h1, h3⟩ := h
  exact ⟨a, e, f, i, b, p, h0, h1.vx h0.2.1 hv, h3⟩
theorem PR.dx {k : Nat} {D' : Row} (h : PR k C D) (hv : R391 D' D) : PR k C D' := by
  obtain ⟨a, e, f, i, b, p, h0, h1, h3⟩ := h
  have e6 : D' 6 = D 6 := hv 6 (by omega)
  exact ⟨a, e, f, i, b, p, by rw [e6]; exact h0.of391 hv, h1.dx h0.2.1 hv, by rw [e6]; exact h3⟩
end REL7
