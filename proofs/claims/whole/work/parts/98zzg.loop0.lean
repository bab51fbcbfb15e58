/-! ===== The law's loop ===== -/
def lwL (G : qG) (X M : Nat) (x : Int32) : qLV := [some (.ref G.1), some (.ref X), some (.ref M), some (.ref (M + 15)), some (.ref (M + 16)), some (.int x), none, none, none]
/-- what a case of the switch comes to: the step to the next call -/
def Nx (G : qG) (X M k : Nat) (x : Int32) (y : Nat → Option qSh) (μ : qMu) (n s : Nat) (es : List qEnt) : Prop := ∃ y1 μ1 n1 s1, qR PG G (318, es, lwL G X M x, [], MK y μ n s) = qR PG G (318, K318_139, lwL G X M x, [], MK y1 μ1 n1 s1) ∧ Wd G X M (k + 1) y1 μ1 n1 ∧ y1 G.1 = none ∧ n1 ≤ n + 42 ∧ s1 ≤ s + 442
/-- the script's int at a place -/
def aS (G : qG) (i : Int32) : Int32 := G.2.2.1 i.toNatClampNeg
section LOOP
variable {G : qG} {y y1 : Nat → Option qSh} {μ : qMu} {X M k n s m pc len hm cm mm : Nat} {es : List qEnt} {L : qLV} {st : List Value} {lk : List Nat} {cv : Value} {cd : Nat → Int64} {kd : Nat} {ca ma ha : List Value} {x i : Int32} {v : Value}
theorem sc_ld (hG : y G.1 = none) (hi : ixok i G.2.1) : qR PG G (m, (pc, len, .iaload, lk, cv) :: es, L, .int i :: .ref G.1 :: st, MK y μ n s) = qR PG G (m, es, L, .int (aS G i) :: st, MK y μ n s) := by
  have h1 : qLdI (MK y μ n s) 0 G.1 i = none := by
    unfold qLdI
    rw [MK_at, hG]
    rfl
  have h2 : (MK y μ n s).2.2 G.1 = none := by
    rw [MK_at, hG]
    rfl
  have h3 : qMem G .iaload lk (.int i :: .ref G.1 :: st) (MK y μ n s) = some (.int (aS G i) :: st, MK y μ n s) := by
    unfold qMem
    dsimp only
    rw [h1]
    dsimp only
    rw [if_pos ⟨rfl, qIn_ok hi, h2⟩]
    rfl
  rw [s_iaload, h3]
theorem sc_len (hG : y G.1 = none) : qR PG G (m, (pc, len, .arraylength, lk, cv) :: es, L, .ref G.1 :: st, MK y μ n s) = qR PG G (m, es, L, .int (Int32.ofNat G.2.1) :: st, MK y μ n s) := by
  have h2 : (MK y μ n s).2.2 G.1 = none := by
    rw [MK_at, hG]
    rfl
  have h3 : qMem G .arraylength lk (.ref G.1 :: st) (MK y μ n s) = some (.int (Int32.ofNat G.2.1) :: st, MK y μ n s) := by
    unfold qMem
    dsimp only
    rw [if_pos ⟨rfl, h2⟩]
  rw [s_arraylength, h3]
theorem lg_self {w : Int64} : lg_cmp w w = 0 := by
  unfold lg_cmp
  rw [if_neg (show ¬ w > w from Int64.lt_irrefl), if_pos rfl]
theorem vk_0 (h : vk v = 0) : ∃ w, v = .int w := by
  cases v with
  | int w => exact ⟨w, rfl⟩
  | float w =>
    unfold vk at h
    dsimp only at h
    split at h <;> exact absurd h (by decide)
  | _ => simp [vk] at h
theorem vk_1 (h : vk v = 1) : ∃ w, v = .long w := by
  cases v with
  | long w => exact ⟨w, rfl⟩
  | float w =>
    unfold vk at h
    dsimp only at h
    split at h <;> exact absurd h (by decide)
  | _ => simp [vk] at h
theorem vk_2 (h : vk v = 2) : ∃ w, v = .double w := by
  cases v with
  | double w => exact ⟨w, rfl⟩
  | float w =>
    unfold vk at h
    dsimp only at h
    split at h <;> exact absurd h (by decide)
  | _ => simp [vk] at h
theorem vk_3 (h : vk v = 3) : ∃ w, v = .float w := by
  cases v with
  | float w => exact ⟨w, rfl⟩
  | _ => simp [vk] at h
theorem cd2_n (E : Nat) (h : cd2 E ≠ 0) : (cd2 E).toInt32 ≠ 0 := by
  rcases cd2_c h with rfl | rfl <;> decide
theorem cdA_n (E : Nat) (h : cdA E ≠ 0) : (cdA E).toInt32 ≠ 0 := by
  have := cdA_c h
  subst this
  decide
theorem cdB_n (E : Nat) (h : cdB E ≠ 0) : (cdB E).toInt32 ≠ 0 := by
  have := cdB_c h
  subst this
  decide
theorem hp_0 (hW : Wd G X M k y μ n) (hk : k < 900) (hG : y G.1 = none) (hGX : G.1 < X) (hcd : ∀ E, cd E ≠ 0 → (cd E).toInt32 ≠ 0) (op : OpW G X M cd 0 cm ca mm ma) (H : (∀ (v : Int32) y1 ν n' s', y1 (M + 15) = some (.inr (.inl (1, 1))) → qR PG G (qEntry PG cm (.ref X :: ca) (MK y μ n s)) = some (.inl (some (.int v)), MK y1 ν n' s') → qR PG G (qEntry PG hm ha (MK y μ n s)) = some (.inl (some (.int 0)), MK y1 (stc ν (M + 15) (sv (ν (M + 15)) 0 v.toInt64)) n' s')) ∧ (∀ E, cd E ≠ 0 → qR PG G (qEntry PG cm (.ref X :: ca) (MK y μ n s)) = exc E y μ n s → qR PG G (qEntry PG hm ha (MK y μ n s)) = some (.inl (some (.int (cd E).toInt32)), MK y μ (n + 1) (s + 6)))) : ∃ (kk : Int32) (w : Int32) (y1 : Nat → Option qSh) (μa : qMu) (na sa : Nat) (μb : qMu), qR PG G (qEntry PG hm ha (MK y μ n s)) = some (.inl (some (.int kk)), MK y1 μa na sa) ∧ qR PG G (qEntry PG mm (.ref M :: ma) (MK y1 μa na sa)) = some (.inl (some (.int w)), MK y1 μb na sa) ∧ (μb M 7).toInt32 = kk ∧ (kk = 0 → μb (M + 15) 0 = w.toInt64) ∧ Wd G X M (k + 1) y1 μb na ∧ y1 G.1 = none ∧ na ≤ n + 42 ∧ sa ≤ s + 442 := by
  rcases op k y μ n s hk hW with ⟨E, v', t1, t2, tk, t3⟩ | ⟨v, y1, ν, n', s', b1, b2, b3, bL, bl, t1, t2, tk, t3⟩
  · obtain ⟨μ2, r1, r2, r3, r4⟩ := t3 μ (n + 1) (s + 6) (Nat.le_succ n) Lx.rfl'
    obtain ⟨w, rfl⟩ := vk_0 tk
    exact ⟨(cd E).toInt32, w, y, μ, n + 1, s + 6, μ2, H.2 E t2 t1, r3, by rw [r4], fun h => absurd h (hcd E t2), r1, hG, by omega, by omega⟩
  · obtain ⟨w, rfl⟩ := vk_0 tk
    have h1 := H.1 w y1 ν n' s' bL.1 t1
    obtain ⟨μ2, r1, r2, r3, r4⟩ := t3 (stc ν (M + 15) (sv (ν (M + 15)) 0 w.toInt64)) n' s' (Nat.le_refl _) (fun a g1 g2 => stc_ne g1)
    refine ⟨0, w, y1, _, n', s', μ2, h1, r3, by rw [r4]; rfl, fun _ => ?_, r1, by rw [bl _ hGX]; exact hG, by omega, by omega⟩
    rw [r2.1, stc_eq, sv_get, if_pos rfl]
theorem hp_1 (hW : Wd G X M k y μ n) (hk : k < 900) (hG : y G.1 = none) (hGX : G.1 < X) (hcd : ∀ E, cd E ≠ 0 → (cd E).toInt32 ≠ 0) (op : OpW G X M cd 1 cm ca mm ma) (H : (∀ (v : Int64) y1 ν n' s', y1 (M + 15) = some (.inr (.inl (1, 1))) → qR PG G (qEntry PG cm (.ref X :: ca) (MK y μ n s)) = some (.inl (some (.long v)), MK y1 ν n' s') → qR PG G (qEntry PG hm ha (MK y μ n s)) = some (.inl (some (.int 0)), MK y1 (stc ν (M + 15) (sv (ν (M + 15)) 0 v)) n' s')) ∧ (∀ E, cd E ≠ 0 → qR PG G (qEntry PG cm (.ref X :: ca) (MK y μ n s)) = exc E y μ n s → qR PG G (qEntry PG hm ha (MK y μ n s)) = some (.inl (some (.int (cd E).toInt32)), MK y μ (n + 1) (s + 6)))) : ∃ (kk : Int32) (w : Int64) (y1 : Nat → Option qSh) (μa : qMu) (na sa : Nat) (μb : qMu), qR PG G (qEntry PG hm ha (MK y μ n s)) = some (.inl (some (.int kk)), MK y1 μa na sa) ∧ qR PG G (qEntry PG mm (.ref M :: ma) (MK y1 μa na sa)) = some (.inl (some (.long w)), MK y1 μb na sa) ∧ (μb M 7).toInt32 = kk ∧ (kk = 0 → μb (M + 15) 0 = w) ∧ Wd G X M (k + 1) y1 μb na ∧ y1 G.1 = none ∧ na ≤ n + 42 ∧ sa ≤ s + 442 := by
  rcases op k y μ n s hk hW with ⟨E, v', t1, t2, tk, t3⟩ | ⟨v, y1, ν, n', s', b1, b2, b3, bL, bl, t1, t2, tk, t3⟩
  · obtain ⟨μ2, r1, r2, r3, r4⟩ := t3 μ (n + 1) (s + 6) (Nat.le_succ n) Lx.rfl'
    obtain ⟨w, rfl⟩ := vk_1 tk
    exact ⟨(cd E).toInt32, w, y, μ, n + 1, s + 6, μ2, H.2 E t2 t1, r3, by rw [r4], fun h => absurd h (hcd E t2), r1, hG, by omega, by omega⟩
  · obtain ⟨w, rfl⟩ := vk_1 tk
    have h1 := H.1 w y1 ν n' s' bL.1 t1
    obtain ⟨μ2, r1, r2, r3, r4⟩ := t3 (stc ν (M + 15) (sv (ν (M + 15)) 0 w)) n' s' (Nat.le_refl _) (fun a g1 g2 => stc_ne g1)
    refine ⟨0, w, y1, _, n', s', μ2, h1, r3, by rw [r4]; rfl, fun _ => ?_, r1, by rw [bl _ hGX]; exact hG, by omega, by omega⟩
    rw [r2.1, stc_eq, sv_get, if_pos rfl]
theorem hp_2 (hW : Wd G X M k y μ n) (hk : k < 900) (hG : y G.1 = none) (hGX : G.1 < X) (hcd : ∀ E, cd E ≠ 0 → (cd E).toInt32 ≠ 0) (op : OpW G X M cd 2 cm ca mm ma) (H : (∀ (v : UInt64) y1 ν n' s', y1 (M + 16) = some (.inr (.inl (5, 1))) → qR PG G (qEntry PG cm (.ref X :: ca) (MK y μ n s)) = some (.inl (some (.double v)), MK y1 ν n' s') → qR PG G (qEntry PG hm ha (MK y μ n s)) = some (.inl (some (.int 0)), MK y1 (stc ν (M + 16) (sv (ν (M + 16)) 0 v.toInt64)) n' s')) ∧ (∀ E, cd E ≠ 0 → qR PG G (qEntry PG cm (.ref X :: ca) (MK y μ n s)) = exc E y μ n s → qR PG G (qEntry PG hm ha (MK y μ n s)) = some (.inl (some (.int (cd E).toInt32)), MK y μ (n + 1) (s + 6)))) : ∃ (kk : Int32) (w : UInt64) (y1 : Nat → Option qSh) (μa : qMu) (na sa : Nat) (μb : qMu), qR PG G (qEntry PG hm ha (MK y μ n s)) = some (.inl (some (.int kk)), MK y1 μa na sa) ∧ qR PG G (qEntry PG mm (.ref M :: ma) (MK y1 μa na sa)) = some (.inl (some (.double w)), MK y1 μb na sa) ∧ (μb M 7).toInt32 = kk ∧ (kk = 0 → μb (M + 16) 0 = w.toInt64) ∧ Wd G X M (k + 1) y1 μb na ∧ y1 G.1 = none ∧ na ≤ n + 42 ∧ sa ≤ s + 442 := by
  rcases op k y μ n s hk hW with ⟨E, v', t1, t2, tk, t3⟩ | ⟨v, y1, ν, n', s', b1, b2, b3, bL, bl, t1, t2, tk, t3⟩
  · obtain ⟨μ2, r1, r2, r3, r4⟩ := t3 μ (n + 1) (s + 6) (Nat.le_succ n) Lx.rfl'
    obtain ⟨w, rfl⟩ := vk_2 tk
    exact ⟨(cd E).toInt32, w, y, μ, n + 1, s + 6, μ2, H.2 E t2 t1, r3, by rw [r4], fun h => absurd h (hcd E t2), r1, hG, by omega, by omega⟩
  · obtain ⟨w, rfl⟩ := vk_2 tk
    have h1 := H.1 w y1 ν n' s' bL.2 t1
    obtain ⟨μ2, r1, r2, r3, r4⟩ := t3 (stc ν (M + 16) (sv (ν (M + 16)) 0 w.toInt64)) n' s' (Nat.le_refl _) (fun a g1 g2 => stc_ne g2)
    refine ⟨0, w, y1, _, n', s', μ2, h1, r3, by rw [r4]; rfl, fun _ => ?_, r1, by rw [bl _ hGX]; exact hG, by omega, by omega⟩
    rw [r2.2, stc_eq, sv_get, if_pos rfl]
theorem hp_3 (hW : Wd G X M k y μ n) (hk : k < 900) (hG : y G.1 = none) (hGX : G.1 < X) (hcd : ∀ E, cd E ≠ 0 → (cd E).toInt32 ≠ 0) (op : OpW G X M cd 3 cm ca mm ma) (H : (∀ (v : UInt32) y1 ν n' s', y1 (M + 16) = some (.inr (.inl (5, 1))) → vk (.float v) = 3 → qR PG G (qEntry PG cm (.ref X :: ca) (MK y μ n s)) = some (.inl (some (.float v)), MK y1 ν n' s') → qR PG G (qEntry PG hm ha (MK y μ n s)) = some (.inl (some (.int 0)), MK y1 (stc ν (M + 16) (sv (ν (M + 16)) 0 (FP.f2d v).toInt64)) n' s')) ∧ (∀ E, cd E ≠ 0 → qR PG G (qEntry PG cm (.ref X :: ca) (MK y μ n s)) = exc E y μ n s → qR PG G (qEntry PG hm ha (MK y μ n s)) = some (.inl (some (.int (cd E).toInt32)), MK y μ (n + 1) (s + 6)))) : ∃ (kk : Int32) (w : UInt32) (y1 : Nat → Option qSh) (μa : qMu) (na sa : Nat) (μb : qMu), qR PG G (qEntry PG hm ha (MK y μ n s)) = some (.inl (some (.int kk)), MK y1 μa na sa) ∧ qR PG G (qEntry PG mm (.ref M :: ma) (MK y1 μa na sa)) = some (.inl (some (.float w)), MK y1 μb na sa) ∧ (μb M 7).toInt32 = kk ∧ (kk = 0 → μb (M + 16) 0 = (FP.f2d w).toInt64 ∧ vk (.float w) = 3) ∧ Wd G X M (k + 1) y1 μb na ∧ y1 G.1 = none ∧ na ≤ n + 42 ∧ sa ≤ s + 442 := by
  rcases op k y μ n s hk hW with ⟨E, v', t1, t2, tk, t3⟩ | ⟨v, y1, ν, n', s', b1, b2, b3, bL, bl, t1, t2, tk, t3⟩
  · obtain ⟨μ2, r1, r2, r3, r4⟩ := t3 μ (n + 1) (s + 6) (Nat.le_succ n) Lx.rfl'
    obtain ⟨w, rfl⟩ := vk_3 tk
    exact ⟨(cd E).toInt32, w, y, μ, n + 1, s + 6, μ2, H.2 E t2 t1, r3, by rw [r4], fun h => absurd h (hcd E t2), r1, hG, by omega, by omega⟩
  · obtain ⟨w, rfl⟩ := vk_3 tk
    have h1 := H.1 w y1 ν n' s' bL.2 tk t1
    obtain ⟨μ2, r1, r2, r3, r4⟩ := t3 (stc ν (M + 16) (sv (ν (M + 16)) 0 (FP.f2d w).toInt64)) n' s' (Nat.le_refl _) (fun a g1 g2 => stc_ne g2)
    refine ⟨0, w, y1, _, n', s', μ2, h1, r3, by rw [r4]; rfl, fun _ => ⟨?_, tk⟩, r1, by rw [bl _ hGX]; exact hG, by omega, by omega⟩
    rw [r2.2, stc_eq, sv_get, if_pos rfl]
theorem dr_of (hW : Wd G X M k y μ n) (hk : k < 900) (hG : y G.1 = none) (hGX : G.1 < X) (op : OpW G X M cd0 kd cm ca mm ma) : ∃ (v : Value) (y1 : Nat → Option qSh) (μa : qMu) (na sa : Nat) (μb : qMu), qR PG G (qEntry PG cm (.ref X :: ca) (MK y μ n s)) = some (.inl (some v), MK y1 μa na sa) ∧ vk v = kd ∧ qR PG G (qEntry PG mm (.ref M :: ma) (MK y1 μa na sa)) = some (.inl (some v), MK y1 μb na sa) ∧ Wd G X M (k + 1) y1 μb na ∧ y1 G.1 = none ∧ na ≤ n + 42 ∧ sa ≤ s + 442 := by
  rcases op k y μ n s hk hW with ⟨E, v', t1, t2, tk, t3⟩ | ⟨v, y1, ν, n', s', b1, b2, b3, bL, bl, t1, t2, tk, t3⟩
  · exact absurd rfl t2
  · obtain ⟨μ2, r1, r2, r3, r4⟩ := t3 ν n' s' (Nat.le_refl _) Lx.rfl'
    exact ⟨v, y1, ν, n', s', μ2, t1, tk, r3, r1, by rw [bl _ hGX]; exact hG, by omega, by omega⟩
theorem fo_self {d : Jvm.FP.Core.Datum} (h : d ≠ .nan) : Jvm.FP.Core.order d d = some .eq := by
  have c : ∀ a : Int, compare a a = .eq := fun a => by
    show compareOfLessAndEq a a = _
    unfold compareOfLessAndEq
    rw [if_neg (Int.lt_irrefl a), if_pos rfl]
  cases d with
  | nan => exact absurd rfl h
  | inf s => exact congrArg some (c _)
  | fin s a q => exact congrArg some (c _)
theorem dc_self (v : UInt64) : FP.dcmp v v = some .eq ∨ FP.dcmp v v = none := by
  by_cases h : Jvm.FP.Core.val64 v = .nan
  · right
    show Jvm.FP.Core.order (Jvm.FP.Core.val64 v) (Jvm.FP.Core.val64 v) = none
    rw [h]
    rfl
  · exact Or.inl (fo_self h)
theorem fc_self (v : UInt32) : FP.dcmp (FP.f2d v) (FP.f2d v) = some .eq ∨ FP.dcmp (FP.f2d v) (FP.f2d v) = none ∧ FP.fcmp v v = none := by
  by_cases h : Jvm.FP.Core.val32 v = .nan
  · have h2 : FP.fcmp v v = none := by
      show Jvm.FP.Core.order (Jvm.FP.Core.val32 v) (Jvm.FP.Core.val32 v) = none
      rw [h]
      rfl
    rcases dc_self (FP.f2d v) with q | q
    · exact Or.inl q
    · exact Or.inr ⟨q, h2⟩
  · left
    have h1 : Jvm.FP.Core.fIsNaN v = false := decide_eq_false h
    have e : FP.f2d v = Jvm.FP.Core.f2d v := by
      unfold FP.f2d
      rw [h1]
      rfl
    rw [e]
    refine fo_self (d := Jvm.FP.Core.val64 (Jvm.FP.Core.f2d v)) ?_
    rw [Jvm.FP.Core.val64_f2d]
    cases hX : Jvm.FP.Core.val32 v with
    | nan => exact absurd hX h
    | inf s => exact fun h => by cases h
    | fin s c q => exact fp_rr
theorem cv_eq : Op.cmpValue (some .eq) .l = 0 := rfl
theorem cv_no : Op.cmpValue none .l = -1 := rfl
theorem Wd.mono1 (h : Wd G X M k y μ n) (hk : k < 900) : Wd G X M (k + 1) y μ n := by
  obtain ⟨hS, hI, hSn, hn, hL⟩ := h
  exact ⟨hS, hI.mono (Nat.le_succ k) (by omega), hSn.of (fun _ _ => rfl) (Nat.le_refl _) (Nat.le_succ k) (by omega), hn, hL⟩
theorem w_139 (hW : Wd G X M k y μ n) (hk : k < 900) (hG : y G.1 = none) : Nx G X M k x y μ n s K318_139 := ⟨y, μ, n, s, rfl, hW.mono1 hk, hG, by omega, by omega⟩
end LOOP
