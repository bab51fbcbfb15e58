/-! ===== A call of the class beside the model's, 8: forecasts ===== -/
section OPZ
variable {G : qG} {y : Nat → Option qSh} {μ ν : qMu} {X M k n s N a e f i b p e0 c : Nat} {C D : Row} {cd : Nat → Int64} {kd cm mm : Nat} {ca ma : List Value} {C' D' : Row} {v' : Value} {E : Nat}
theorem Sf.fmx {d B Q : Nat → Int64} {T : Row} (hXM : X + 465 ≤ M) : Sf X M μ (FMX μ (X + 415) (X + 1) (rd μ (X + 1)) d B Q T) := by
  unfold FMX
  have e : CEnvelopeBudgetLaw_law_r4624_719d03.wr (stc (stc (stc μ (X + 415) d) (X + 415 + 42) B) (X + 415 + 43) Q) (X + 1) (rd μ (X + 1)) = stc (stc (stc μ (X + 415) d) (X + 415 + 42) B) (X + 415 + 43) Q := by
    rw [← wr_stc (by omega), ← wr_stc (by omega), ← wr_stc (by omega), wr_rd]
  rw [e]
  exact (((Sf.refl.w hXM (by omega)).w hXM (by omega)).w hXM (by omega)).wr hXM (by omega)
theorem fmx_1 {d B Q : Nat → Int64} {T : Row} (hXM : X + 465 ≤ M) : FMX μ (X + 415) (X + 1) (rd μ (X + 1)) d B Q T (M + 1) = μ (M + 1) := by
  unfold FMX
  rw [wr_out (by omega), wr_out (by omega), stc_ne (by omega), stc_ne (by omega), stc_ne (by omega)]
theorem Sf.mw {A S F E : QF} (hXM : X + 465 ≤ M) (hE : R391 E (μ (M + 1))) : Sf X M μ (MW μ M A S F E) := by
  unfold MW FM
  exact ((((Sf.refl.s7 hXM).w hXM (by omega)).w hXM (by omega)).w hXM (by omega)).s1 hXM hE
theorem mw_7 {A S F E : QF} : MW μ M A S F E M 7 = 0 := by
  unfold MW FM
  rw [stc_ne (by omega), stc_ne (by omega), stc_ne (by omega), stc_ne (by omega), stc_eq, sv_get, if_pos rfl]
/-- a forecast of both -/
theorem lf_fc {v : Value} {d B Q : Nat → Int64} {T : Row} (hk : k < 900) (hX : X + 465 ≤ M) (hI : Iv G y X M k μ) (tc : qR PG G (qEntry PG cm (.ref X :: ca) (MK y (wr μ (X + 1) (rd μ (X + 1))) n s)) = some (.inl (some v), MK y (FMX μ (X + 415) (X + 1) (rd μ (X + 1)) d B Q T) n s)) (tm : ∀ μ1 n s, ∃ A S F E, R391 E (μ (M + 1)) ∧ qR PG G (qEntry PG mm (.ref M :: ma) (MK y (stc μ1 (M + 1) (μ (M + 1))) n s)) = some (.inl (some v), MK y (MW μ1 M A S F E) n s)) (hv : vk v = kd := by rfl) : OpL G y X M cd kd cm ca mm ma k μ n s := by
  refine lf_ans hk hX hI tc (Sf.fmx hX) (fmx_1 hX) (fun μ1 n s hx => ?_) hv
  obtain ⟨A, S, F, E, hE, t⟩ := tm μ1 n s
  exact ⟨_, t, Sf.mw hX (by rw [hx (M + 1) (by omega) (by omega), fmx_1 hX]; exact hE), mw_7⟩
theorem lf_exm (hk : k < 900) (hX : X + 465 ≤ M) (hI : Iv G y X M k μ) (tc : qR PG G (qEntry PG cm (.ref X :: ca) (MK y (wr μ (X + 1) (rd μ (X + 1))) n s)) = exc E y (wr μ (X + 1) (rd μ (X + 1))) n s) (tm : ∀ (μ1 : qMu) n s, qR PG G (qEntry PG mm (.ref M :: ma) (MK y (stc μ1 (M + 1) (μ (M + 1))) n s)) = some (.inl (some v'), MK y (MT μ1 M (μ (M + 1)) (cd E)) n s)) (hE : cd E ≠ 0) (hv : vk v' = kd := by rfl) : OpL G y X M cd kd cm ca mm ma k μ n s := lf_exc hk hX hI tc (fun μ1 n s _ => tm μ1 n s) hE hv
/-- the trial's days -/
theorem fc_al (hJ : J N a e f i b p D) (h : AL a e f i b C D) {Z : Row} {j : Nat} (hd : (D 6).toInt + j ≤ 22000) (hN : N + 23 * j < 2 ^ 20) : AL a e f i b (kDays (kCpy Z C) e f i b j) (pDays D e f i b j) ∧ J (N + 23 * j) a e f i b p (pDays D e f i b j) := ⟨(h.cpy hJ).days hJ j hd hN, (hJ.days j hd hN).1⟩
theorem fc_S (hJ : J N a e f i b p D) (h : AL a e f i b C D) {Z : Row} {x : Int32} {j : Nat} (hd : (D 6).toInt + j ≤ 22000) (hN : N + 23 * j < 2 ^ 20) : fcV (kCpy Z C) a e f i b 0 x j = vS D a e f i b j := by
  obtain ⟨s, -⟩ := fc_al hJ h (Z := Z) hd hN
  unfold fcV vS kWat
  rw [if_neg (by simp), if_neg (by simp), if_neg (by decide), smB_sm, Int64.zero_add]
  exact sm_congr a fun q hq => s.g (lv_a hq)
theorem fc_A (hJ : J N a e f i b p D) (h : AL a e f i b C D) {Z : Row} {x j : Nat} (hx : x < a) (hd : (D 6).toInt + j ≤ 22000) (hN : N + 23 * j < 2 ^ 20) : fcV (kCpy Z C) a e f i b 1 (nI x) j = vD D e f i b (9 + x) j := by
  obtain ⟨s, hj⟩ := fc_al hJ h (Z := Z) hd hN
  have hc := hJ.2.1
  unfold Jc at hc
  unfold fcV vD kWat
  rw [s.c0 hj, if_pos ⟨rfl, c_in hx (by omega)⟩, nI_clamp (by omega)]
  exact s.g (lv_a hx)
theorem fc_E (hJ : J N a e f i b p D) (h : AL a e f i b C D) {Z : Row} {x j : Nat} (hx : x < e) (hd : (D 6).toInt + j ≤ 22000) (hN : N + 23 * j < 2 ^ 20) : fcV (kCpy Z C) a e f i b 2 (nI x) j = vD D e f i b (13 + 6 * x) j := by
  obtain ⟨s, hj⟩ := fc_al hJ h (Z := Z) hd hN
  have hc := hJ.2.1
  unfold Jc at hc
  unfold fcV vD kWat
  rw [s.c1 hj, if_neg (by simp), if_pos ⟨rfl, c_in hx (by omega)⟩, nI_clamp (by omega)]
  exact s.g (lv_e0 hx)
theorem fc_P (hJ : J N a e f i b p D) (h : AL a e f i b C D) {Z : Row} {x : Int32} {j : Nat} (hd : (D 6).toInt + j ≤ 22000) (hN : N + 23 * j < 2 ^ 20) : fcV (kCpy Z C) a e f i b 3 x j = vD D e f i b 7 j := by
  obtain ⟨s, -⟩ := fc_al hJ h (Z := Z) hd hN
  unfold fcV vD kWat
  rw [if_neg (by simp), if_neg (by simp), if_pos rfl]
  exact s.g (lv_8 (by decide))
theorem lea_congr {V W : Nat → Int64} : ∀ q, (∀ j, j ≤ q → V j = W j) → lea V q = lea W q
  | 0, h => h 0 (Nat.le_refl _)
  | q + 1, h => by rw [lea, lea, lea_congr q fun j hj => h j (by omega), h (q + 1) (Nat.le_refl _)]
theorem lea_fl {V : Nat → Int64} : ∀ q, lea V q = V (flB V q)
  | 0 => rfl
  | q + 1 => by
    rw [lea, flB, lea_fl q]
    unfold mn
    split <;> rfl
theorem fnB_congr {V W : Nat → Int64} : ∀ k j, (∀ q, q < j + k → V q = W q) → fnB V k j = fnB W k j
  | 0, _, _ => rfl
  | k + 1, j, h => by rw [fnB, fnB, h j (by omega), fnB_congr k (j + 1) fun q hq => h q (by omega)]
theorem fn_stp {V : Nat → Int64} : ∀ k j, fnB V (k + 1) j = if V (stp V k j) < 0 then nI (stp V k j) else -1
  | 0, j => rfl
  | k + 1, j => by
    rw [fnB, stp]
    by_cases h : V j < 0
    · rw [if_pos h, if_pos h, if_pos h]
    · rw [if_neg h, if_neg h]
      exact fn_stp k (j + 1)
theorem d_add (hJ : J N a e f i b p D) {q : Nat} (hq : q ≤ 2000) : ((D 6).toInt32 + nI q).toInt64 = D 6 + (nI q).toInt64 ∧ ((D 6).toInt32 + nI q).toInt = (D 6).toInt + q := by
  have hd := hJ.d6
  have e1 : ((D 6).toInt32 + nI q).toInt = (D 6).toInt + q := by
    rw [Int32.toInt_add, to32 (by omega) (by omega), nI_32 (by omega)]
    exact Int.bmod_eq_of_le (by omega) (by omega)
  refine ⟨i64_ext ?_, e1⟩
  rw [Int32.toInt_toInt64, e1, ia (by rw [Int32.toInt_toInt64, nI_32 (by omega)]; omega) (by rw [Int32.toInt_toInt64, nI_32 (by omega)]; omega), Int32.toInt_toInt64, nI_32 (by omega)]
/-- what could be spent, and when: the least from both sides -/
theorem le_mn {z : Int} {x w : Int64} : z ≤ (mn x w).toInt ↔ z ≤ x.toInt ∧ z ≤ w.toInt := by
  unfold mn
  split
  · rename_i h
    have := Int64.lt_iff_toInt_lt.mp h
    omega
  · rename_i h
    have := mt Int64.lt_iff_toInt_lt.mpr h
    omega
theorem le_lea {z : Int} {S : Nat → Int64} : ∀ m, z ≤ (lea S m).toInt ↔ ∀ j, j ≤ m → z ≤ (S j).toInt
  | 0 => by
    rw [lea]
    constructor
    · intro h j hj
      rw [show j = 0 by omega]; exact h
    · exact fun h => h 0 (Nat.le_refl _)
  | m + 1 => by
    rw [lea, le_mn, le_lea m]
    constructor
    · rintro ⟨h1, h2⟩ j hj
      by_cases q : j = m + 1
      · rw [q]; exact h2
      · exact h1 j (by omega)
    · exact fun h => ⟨fun j hj => h j (by omega), h (m + 1) (Nat.le_refl _)⟩
def bS (S : Nat → Int64) (k : Nat) : Prop := ∀ j, j ≤ k → -2 ^ 50 ≤ (S j).toInt ∧ (S j).toInt ≤ 2 ^ 50
theorem le_pB1 {z : Int} {S : Nat → Int64} {v : Int64} {d : Nat} (hd : 1 ≤ d) (hv : 0 ≤ v.toInt ∧ v.toInt ≤ 1000000) : ∀ m, bS S m → (z ≤ (pB1 S v d m).toInt ↔ ∀ j, j ≤ m → z ≤ (S j).toInt - if j < d then 0 else v.toInt)
  | 0, _ => by
    rw [pB1]
    constructor
    · intro h j hj
      rw [show j = 0 by omega, if_pos (by omega)]
      omega
    · intro h
      have := h 0 (Nat.le_refl _)
      rw [if_pos (by omega)] at this
      omega
  | m + 1, hS => by
    have hb := hS (m + 1) (Nat.le_refl _)
    have e1 : (S (m + 1) - (if m + 1 < d then 0 else v)).toInt = (S (m + 1)).toInt - if m + 1 < d then 0 else v.toInt := by
      split
      · rw [Int64.sub_zero, Int.sub_zero]
      · exact is_ (by omega) (by omega)
    rw [pB1, le_mn, le_pB1 hd hv m (fun j hj => hS j (by omega)), e1]
    constructor
    · rintro ⟨h1, h2⟩ j hj
      by_cases q : j = m + 1
      · rw [q]; exact h2
      · exact h1 j (by omega)
    · exact fun h => ⟨fun j hj => h j (by omega), h (m + 1) (Nat.le_refl _)⟩
theorem le_sfx {z : Int} (hz : z ≤ 2 ^ 62) {B Q : Nat → Int64} {v : Int64} {k : Nat} : ∀ j, j ≤ k → (z ≤ (bdL B Q v k j).2.2.toInt ↔ ∀ q, k - j < q → q ≤ k → z ≤ (B q).toInt)
  | 0, _ => by
    rw [bdL]
    constructor
    · intro _ q h1 h2; omega
    · intro _
      show z ≤ (9223372036854775807 : Int64).toInt
      rw [show (9223372036854775807 : Int64).toInt = 9223372036854775807 by decide]
      omega
  | j + 1, hj => by
    have ih := le_sfx hz (B := B) (Q := Q) (v := v) (k := k) j (by omega)
    have e1 : (bdL B Q v k (j + 1)).2.2 = mn (bdL B Q v k j).2.2 (B (k - j)) := by
      rw [bdL]
      split <;> rfl
    rw [e1, le_mn, ih]
    constructor
    · rintro ⟨h1, h2⟩ q hq hq2
      by_cases r : q = k - j
      · rw [r]; exact h2
      · exact h1 q (by omega) hq2
    · exact fun h => ⟨fun q h1 h2 => h q (by omega) h2, h (k - j) (by omega) (by omega)⟩
theorem val_eq {S : Nat → Int64} {v : Int64} {k j : Nat} (hj : j < k) (hS : bS S k) (hv : 0 ≤ v.toInt ∧ v.toInt ≤ 1000000) : mn (lea S (k - j - 1)) (mn (bdL S (lea S) v k j).2.2 (S (k - j)) - v) = pB1 S v (k - j) k := by
  have lo : -2 ^ 50 ≤ (mn (bdL S (lea S) v k j).2.2 (S (k - j))).toInt := by
    rw [le_mn, le_sfx (by decide) j (by omega)]
    exact ⟨fun q _ h => (hS q h).1, (hS _ (by omega)).1⟩
  have hi : (mn (bdL S (lea S) v k j).2.2 (S (k - j))).toInt ≤ 2 ^ 50 := by
    have h1 := (le_mn (z := (mn (bdL S (lea S) v k j).2.2 (S (k - j))).toInt)).mp (Int.le_refl _)
    have h2 := (hS (k - j) (by omega)).2
    omega
  have e1 := is_ (x := mn (bdL S (lea S) v k j).2.2 (S (k - j))) (y := v) (by omega) (by omega)
  have key : ∀ z : Int, z ≤ 2 ^ 62 - 1000000 → (z ≤ (mn (lea S (k - j - 1)) (mn (bdL S (lea S) v k j).2.2 (S (k - j)) - v)).toInt ↔ z ≤ (pB1 S v (k - j) k).toInt) := fun z hz => by
    rw [le_mn, le_lea, e1, le_pB1 (by omega) hv k hS]
    have e2 : (z ≤ (mn (bdL S (lea S) v k j).2.2 (S (k - j))).toInt - v.toInt) ↔ (z + v.toInt ≤ (mn (bdL S (lea S) v k j).2.2 (S (k - j))).toInt) := by omega
    rw [e2, le_mn, le_sfx (by omega) j (by omega)]
    constructor
    · rintro ⟨h1, h2, h3⟩ q hq
      by_cases r : q < k - j
      · rw [if_pos r]
        have := h1 q (by omega)
        omega
      · rw [if_neg r]
        by_cases r2 : q = k - j
        · rw [r2]; omega
        · have := h2 q (by omega) hq
          omega
    · intro h
      refine ⟨fun q hq => ?_, fun q h1 h2 => ?_, ?_⟩
      · have := h q (by omega)
        rw [if_pos (by omega)] at this
        omega
      · have := h q h2
        rw [if_neg (by omega)] at this
        omega
      · have := h (k - j) (by omega)
        rw [if_neg (by omega)] at this
        omega
  apply i64_ext
  have b1 : (mn (lea S (k - j - 1)) (mn (bdL S (lea S) v k j).2.2 (S (k - j)) - v)).toInt ≤ 2 ^ 50 := by
    have h1 := (le_mn (z := (mn (lea S (k - j - 1)) (mn (bdL S (lea S) v k j).2.2 (S (k - j)) - v)).toInt)).mp (Int.le_refl _)
    have h2 := (le_lea (z := (mn (lea S (k - j - 1)) (mn (bdL S (lea S) v k j).2.2 (S (k - j)) - v)).toInt) _).mp h1.1 0 (by omega)
    have := hS 0 (by omega)
    omega
  have b2 : (pB1 S v (k - j) k).toInt ≤ 2 ^ 50 := by
    have h1 := (le_pB1 (z := (pB1 S v (k - j) k).toInt) (by omega) hv k hS).mp (Int.le_refl _) 0 (by omega)
    have := hS 0 (by omega)
    rw [if_pos (by omega)] at h1
    omega
  have h1 := (key _ (by omega)).mp (Int.le_refl (mn (lea S (k - j - 1)) (mn (bdL S (lea S) v k j).2.2 (S (k - j)) - v)).toInt)
  have h2 := (key _ (by omega)).mpr (Int.le_refl (pB1 S v (k - j) k).toInt)
  omega
/-- the best day -/
def bst (w : Nat → Int64) (l u d : Nat) (m : Int64) : Prop := l ≤ d ∧ d ≤ u ∧ m = w d ∧ (∀ q, l ≤ q → q ≤ u → w q ≤ m) ∧ ∀ q, l ≤ q → q < d → w q < m
theorem bst_u {w : Nat → Int64} {l u d d' : Nat} {m m' : Int64} (h : bst w l u d m) (h' : bst w l u d' m') : d = d' := by
  obtain ⟨a1, a2, a3, a4, a5⟩ := h
  obtain ⟨b1, b2, b3, b4, b5⟩ := h'
  have e1 := a4 d' b1 b2
  have e2 := b4 d a1 a2
  rw [← b3, Int64.le_iff_toInt_le] at e1
  rw [← a3, Int64.le_iff_toInt_le] at e2
  by_cases q : d < d'
  · have := b5 d a1 q
    rw [← a3, Int64.lt_iff_toInt_lt] at this
    omega
  · by_cases q2 : d' < d
    · have := a5 d' b1 q2
      rw [← b3, Int64.lt_iff_toInt_lt] at this
      omega
    · omega
theorem bd_best {S : Nat → Int64} {v : Int64} {k : Nat} (hS : bS S k) (hv : 0 ≤ v.toInt ∧ v.toInt ≤ 1000000) : ∀ j, j < k → bst (fun d => pB1 S v d k) (k - j) k (bdL S (lea S) v k (j + 1)).1 (bdL S (lea S) v k (j + 1)).2.1
  | 0, hj => by
    have e1 := val_eq (j := 0) hj hS hv
    rw [bdL]
    rw [e1]
    rw [if_neg]
    · refine ⟨Nat.le_refl _, Nat.le_refl _, rfl, fun q h1 h2 => ?_, fun q h1 h2 => by omega⟩
      rw [show q = k - 0 by omega]
      exact Int64.le_refl _
    · rw [bdL, Int64.lt_iff_toInt_lt]
      show ¬ _ < (-9223372036854775807 : Int64).toInt
      rw [show (-9223372036854775807 : Int64).toInt = -9223372036854775807 by decide]
      have := (le_pB1 (z := -2 ^ 51) (S := S) (d := k - 0) (by omega) hv k hS).mpr fun j hj => by
        have := (hS j hj).1
        split <;> omega
      omega
  | j + 1, hj => by
    have e1 := val_eq (j := j + 1) hj hS hv
    obtain ⟨a1, a2, a3, a4, a5⟩ := bd_best hS hv j (by omega)
    rw [bdL]
    rw [e1]
    generalize bdL S (lea S) v k (j + 1) = P at *
    split
    · rename_i h
      refine ⟨by omega, a2, a3, fun q h1 h2 => ?_, fun q h1 h2 => ?_⟩
      · by_cases r : q = k - (j + 1)
        · rw [r]; exact Int64.le_of_lt h
        · exact a4 q (by omega) h2
      · by_cases r : q = k - (j + 1)
        · rw [r]; exact h
        · exact a5 q (by omega) h2
    · rename_i h
      have h' := Int64.not_lt.mp h
      refine ⟨Nat.le_refl _, by omega, rfl, fun q h1 h2 => ?_, fun q h1 h2 => ?_⟩
      · by_cases r : q = k - (j + 1)
        · rw [r]; exact Int64.le_refl _
        · exact Int64.le_trans (a4 q (by omega) h2) h'
      · dsimp only at h2; omega
theorem pb_best {S : Nat → Int64} {v : Int64} {k : Nat} : ∀ d, bst (fun d => pB1 S v d k) 1 (d + 1) (pB2 S v k (d + 1)).1 (pB2 S v k (d + 1)).2
  | 0 => by
    rw [pB2, if_pos (Or.inl (show (pB2 S v k 0).1 = 0 from rfl))]
    refine ⟨Nat.le_refl _, Nat.le_refl _, rfl, fun q h1 h2 => ?_, fun q h1 h2 => by dsimp only at h2; omega⟩
    rw [show q = 1 by omega]
    exact Int64.le_refl _
  | d + 1 => by
    obtain ⟨a1, a2, a3, a4, a5⟩ := pb_best (S := S) (v := v) (k := k) d
    rw [pB2]
    generalize pB2 S v k (d + 1) = P at *
    by_cases h : P.1 = 0 ∨ P.2 < pB1 S v (d + 1 + 1) k
    · rw [if_pos h]
      have h' := h.resolve_left (by omega)
      refine ⟨by omega, Nat.le_refl _, rfl, fun q h1 h2 => ?_, fun q h1 h2 => ?_⟩
      · by_cases r : q = d + 1 + 1
        · rw [r]; exact Int64.le_refl _
        · exact Int64.le_trans (a4 q h1 (by omega)) (Int64.le_of_lt h')
      · dsimp only at h2
        exact Int64.lt_of_le_of_lt (a4 q h1 (by omega)) h'
    · rw [if_neg h]
      refine ⟨a1, by omega, a3, fun q h1 h2 => ?_, a5⟩
      by_cases r : q = d + 1 + 1
      · rw [r]; exact Int64.not_lt.mp fun q2 => h (Or.inr q2)
      · exact a4 q h1 (by omega)
theorem bd_pb {S : Nat → Int64} {v : Int64} {k : Nat} (hk : 1 ≤ k) (hS : bS S k) (hv : 0 ≤ v.toInt ∧ v.toInt ≤ 1000000) : (bdL S (lea S) v k k).1 = (pB2 S v k k).1 := by
  have h1 := bd_best hS hv (k - 1) (by omega)
  have h2 := pb_best (S := S) (v := v) (k := k) (k - 1)
  rw [show k - (k - 1) = 1 by omega, show k - 1 + 1 = k by omega] at h1
  rw [show k - 1 + 1 = k by omega] at h2
  exact bst_u h1 h2
theorem bdL_congr {B S Q R : Nat → Int64} {v : Int64} {k : Nat} (h1 : ∀ j, j ≤ k → B j = S j) (h2 : ∀ j, j ≤ k → Q j = R j) : ∀ j, bdL B Q v k j = bdL S R v k j
  | 0 => rfl
  | j + 1 => by rw [bdL, bdL, bdL_congr h1 h2 j, h1 (k - j) (by omega), h2 (k - j - 1) (by omega)]
theorem smB_b {g : Nat → Int64} {K : Int} : ∀ q, (∀ j, j < q → -K ≤ (g j).toInt ∧ (g j).toInt ≤ K) → K * q < 2 ^ 62 → 0 ≤ K → -(K * q) ≤ (smB 0 g q).toInt ∧ (smB 0 g q).toInt ≤ K * q
  | 0, _, _, _ => by
    rw [smB, show (0 : Int64).toInt = 0 by decide]
    omega
  | q + 1, h, hK, h0 => by
    have e1 : K * ((q + 1 : Nat) : Int) = K * q + K := by rw [Int.natCast_succ, Int.mul_add, Int.mul_one]
    rw [e1] at hK ⊢
    have e2 : 0 ≤ K * q := Int.mul_nonneg h0 (by omega)
    have ih := smB_b (g := g) q (fun j hj => h j (by omega)) (by omega) h0
    have := h q (by omega)
    rw [smB, ia (by omega) (by omega)]
    omega
theorem vS_b (hJ : J N a e f i b p D) {k : Nat} (hd : (D 6).toInt + k ≤ 22000) (hN : N + 23 * k < 2 ^ 20) : bS (vS D a e f i b) k := fun j hj => by
  have hc := hJ.2.1
  unfold Jc at hc
  have hj2 := (hJ.days j (by omega) (by omega)).1
  unfold vS
  have := smB_b (g := fun q => pDays D e f i b j (9 + q)) (K := 2 ^ 45) a (fun q hq => by
    have := hj2.2.2 (9 + q)
    have e1 : jB (N + 23 * j) a e f i b p (9 + q) = (-(1000000 * ((N + 23 * j : Nat) : Int)), 1000000 * ((N + 23 * j : Nat) : Int)) := by
      unfold jB
      rw [if_neg (by omega), if_neg (by omega), if_neg (by omega), if_neg (by omega), if_neg (by omega), if_neg (by omega), if_neg (by omega), if_neg (by omega), if_neg (by omega), if_pos (by omega)]
    rw [e1] at this
    unfold IB at this
    dsimp only at this ⊢
    omega) (by omega) (by decide)
  omega
/-- what a fund still lacks on its day -/
theorem pFns_fr {q r : Nat} (hq : q < 6) (hr : r < 6) (hJ : J N a e f i b p D) : ∀ k, k ≤ q → k ≤ f → N + k < 2 ^ 20 → pFns D k (73 + 6 * q + r) = D (73 + 6 * q + r)
  | 0, _, _, _ => rfl
  | k + 1, hk, hkf, hN => by
    have ih := pFns_fr hq hr hJ k (by omega) (by omega) (by omega)
    have hc := hJ.2.1
    unfold Jc at hc
    have j := hJ.fns k (by omega) (by omega)
    rw [pFns]
    split
    · obtain ⟨x, hx, hx2⟩ := j.fa (q := k) (by omega)
      rw [show acF (pFns D k) k = x from acF_of hx2 (by omega)]
      rw [pFun_x (by omega) (by omega) (by omega) (by omega) (by omega) (by omega), ih]
    · exact ih
theorem op_129 (hS : SH y X M) {x z : Int32} : OpI G y X M cdA 1 129 [.int x, .int z] 254 [.int x, .int z] := by
  intro k μ n s hk hI
  obtain ⟨hE, hF, hDL, hM, hMA, hX⟩ := hS
  have hI' := hI
  obtain ⟨⟨a, e, f, i, b, p, hJ, hA, hd⟩, ⟨e0, c, hH⟩, -⟩ := hI'
  have hO := hA.ct hJ
  have hc := hJ.2.1
  unfold Jc at hc
  have hN := hJ.1
  have d6 := hJ.d6
  have tc := t129 (G := G) (μ := μ) (n := n) (s := s) hE hF hO.1 ((hA.cpy (Z := rd μ (X + 415 + 1)) hJ).ct hJ) (x := x) (z := z)
  have g0 : rd μ (X + 1) 0 = μ (M + 1) 0 := hA.g (lv_8 (by omega))
  have g1 : rd μ (X + 1) 1 = μ (M + 1) 1 := hA.g (lv_8 (by omega))
  have g2 : rd μ (X + 1) 2 = μ (M + 1) 2 := hA.g (lv_8 (by omega))
  have g3 : rd μ (X + 1) 3 = μ (M + 1) 3 := hA.g (lv_8 (by omega))
  have g4 : rd μ (X + 1) 4 = μ (M + 1) 4 := hA.g (lv_8 (by omega))
  have g5 : rd μ (X + 1) 5 = μ (M + 1) 5 := hA.g (lv_8 (by omega))
  have g6 := hA.d6 hJ
  have g7 : rd μ (X + 1) 7 = μ (M + 1) 7 := hA.g (lv_8 (by omega))
  try rw [g0] at tc
  try rw [g1] at tc
  try rw [g2] at tc
  try rw [g3] at tc
  try rw [g4] at tc
  try rw [g5] at tc
  by_cases dx : 0 ≤ x ∧ x ≤ 2000
  case neg => exact lf_exm hk hX hI (tc.trans (if_pos dx)) (fun μ1 n s => t254n hM fun h => dx h.1) (by decide)
  replace tc := tc.trans (if_neg (not_not_intro dx))
  by_cases dz : 0 ≤ z ∧ z ≤ 1
  case neg => exact lf_exm hk hX hI (tc.trans (if_pos dz)) (fun μ1 n s => t254n hM fun h => dz h.2) (by decide)
  replace tc := tc.trans (if_neg (not_not_intro dz))
  obtain ⟨q, hq, rfl⟩ := kd_n (k := 2000) (by decide) dx
  rw [show (nI q).toNatClampNeg = q from nI_clamp (by omega)] at tc

  have eV : ∀ j, j ≤ q → fcV (kCpy (rd μ (X + 415 + 1)) (rd μ (X + 1))) a e f i b 0 (-1) j = vS (μ (M + 1)) a e f i b j := fun j hj => fc_S hJ hA (by omega) (by omega)
  have e1 : flB (fcB μ X (rd μ (X + 1)) a e f i b 0 (-1) q) q = flB (vS (μ (M + 1)) a e f i b) q := flB_congr q fun j hj => by
    unfold fcB beh
    rw [if_pos hj]
    exact eV j hj
  have e2 : lea (fcV (kCpy (rd μ (X + 415 + 1)) (rd μ (X + 1))) a e f i b 0 (-1)) q = vS (μ (M + 1)) a e f i b (flB (vS (μ (M + 1)) a e f i b) q) := (lea_congr q eV).trans (lea_fl q)
  have e3 := (d_add hJ (q := flB (vS (μ (M + 1)) a e f i b) q) (by have := flB_le (B := vS (μ (M + 1)) a e f i b) q; omega)).1
  rw [e1, e2, g6.1, e3] at tc
  refine lf_fc hk hX hI tc fun μ1 n s => ?_
  have := t254y (G := G) (μ := μ1) (n := n) (s := s) hM hMA hJ hd (by omega) dx dz
  rwa [show (nI q).toNatClampNeg = q from nI_clamp (by omega)] at this
theorem op_134 (hS : SH y X M) {z x : Int32} : OpI G y X M cd2 1 134 [.int z, .int x] 258 [.int z, .int x] := by
  intro k μ n s hk hI
  obtain ⟨hE, hF, hDL, hM, hMA, hX⟩ := hS
  have hI' := hI
  obtain ⟨⟨a, e, f, i, b, p, hJ, hA, hd⟩, ⟨e0, c, hH⟩, -⟩ := hI'
  have hO := hA.ct hJ
  have hc := hJ.2.1
  unfold Jc at hc
  have hN := hJ.1
  have d6 := hJ.d6
  have tc := t134 (G := G) (μ := μ) (n := n) (s := s) hE hF hO.1 ((hA.cpy (Z := rd μ (X + 415 + 1)) hJ).ct hJ) (z := z) (x := x)
  have g0 : rd μ (X + 1) 0 = μ (M + 1) 0 := hA.g (lv_8 (by omega))
  have g1 : rd μ (X + 1) 1 = μ (M + 1) 1 := hA.g (lv_8 (by omega))
  have g2 : rd μ (X + 1) 2 = μ (M + 1) 2 := hA.g (lv_8 (by omega))
  have g3 : rd μ (X + 1) 3 = μ (M + 1) 3 := hA.g (lv_8 (by omega))
  have g4 : rd μ (X + 1) 4 = μ (M + 1) 4 := hA.g (lv_8 (by omega))
  have g5 : rd μ (X + 1) 5 = μ (M + 1) 5 := hA.g (lv_8 (by omega))
  have g6 := hA.d6 hJ
  have g7 : rd μ (X + 1) 7 = μ (M + 1) 7 := hA.g (lv_8 (by omega))
  try rw [g0] at tc
  try rw [g1] at tc
  try rw [g2] at tc
  try rw [g3] at tc
  try rw [g4] at tc
  try rw [g5] at tc
  by_cases dz : inR z (μ (M + 1) 0)
  case neg => exact lf_exm hk hX hI (tc.trans (if_pos dz)) (fun μ1 n s => (by have := t258n (G := G) (x := x) (z := z) (μ := μ1) (n := n) (s := s) hM hJ (fun h => dz h.1); rwa [if_neg dz] at this)) (by decide)
  replace tc := tc.trans (if_neg (not_not_intro dz))
  by_cases dx : 0 ≤ x ∧ x ≤ 2000
  case neg => exact lf_exm hk hX hI (tc.trans (if_pos dx)) (fun μ1 n s => (by have := t258n (G := G) (x := x) (z := z) (μ := μ1) (n := n) (s := s) hM hJ (fun h => dx h.2); rwa [if_pos dz] at this)) (by decide)
  replace tc := tc.trans (if_neg (not_not_intro dx))
  have dz' := dz
  obtain ⟨z, hz, rfl⟩ := inR_n (c := a) (by omega) hJ.c0 dz
  obtain ⟨q, hq, rfl⟩ := kd_n (k := 2000) (by decide) dx
  rw [show (nI q).toNatClampNeg = q from nI_clamp (by omega)] at tc

  have eV : ∀ j, j ≤ q → fcV (kCpy (rd μ (X + 415 + 1)) (rd μ (X + 1))) a e f i b 1 (nI z) j = vD (μ (M + 1)) e f i b (9 + z) j := fun j hj => fc_A hJ hA hz (by omega) (by omega)
  rw [lea_congr q eV] at tc
  refine lf_fc hk hX hI tc fun μ1 n s => ?_
  have := t258y (G := G) (μ := μ1) (n := n) (s := s) hM hMA hJ hd (by omega) dz' dx
  rwa [show (nI q).toNatClampNeg = q from nI_clamp (by omega), show (nI z).toNatClampNeg = z from nI_clamp (by omega)] at this
theorem op_137 (hS : SH y X M) {x : Int32} : OpI G y X M cdA 1 137 [.int x] 260 [.int x] := by
  intro k μ n s hk hI
  obtain ⟨hE, hF, hDL, hM, hMA, hX⟩ := hS
  have hI' := hI
  obtain ⟨⟨a, e, f, i, b, p, hJ, hA, hd⟩, ⟨e0, c, hH⟩, -⟩ := hI'
  have hO := hA.ct hJ
  have hc := hJ.2.1
  unfold Jc at hc
  have hN := hJ.1
  have d6 := hJ.d6
  have tc := t137 (G := G) (μ := μ) (n := n) (s := s) hE hF hO.1 ((hA.cpy (Z := rd μ (X + 415 + 1)) hJ).ct hJ) (x := x)
  have g0 : rd μ (X + 1) 0 = μ (M + 1) 0 := hA.g (lv_8 (by omega))
  have g1 : rd μ (X + 1) 1 = μ (M + 1) 1 := hA.g (lv_8 (by omega))
  have g2 : rd μ (X + 1) 2 = μ (M + 1) 2 := hA.g (lv_8 (by omega))
  have g3 : rd μ (X + 1) 3 = μ (M + 1) 3 := hA.g (lv_8 (by omega))
  have g4 : rd μ (X + 1) 4 = μ (M + 1) 4 := hA.g (lv_8 (by omega))
  have g5 : rd μ (X + 1) 5 = μ (M + 1) 5 := hA.g (lv_8 (by omega))
  have g6 := hA.d6 hJ
  have g7 : rd μ (X + 1) 7 = μ (M + 1) 7 := hA.g (lv_8 (by omega))
  try rw [g0] at tc
  try rw [g1] at tc
  try rw [g2] at tc
  try rw [g3] at tc
  try rw [g4] at tc
  try rw [g5] at tc
  by_cases dx : 0 ≤ x ∧ x ≤ 2000
  case neg => exact lf_exm hk hX hI (tc.trans (if_pos dx)) (fun μ1 n s => t260n hM dx) (by decide)
  replace tc := tc.trans (if_neg (not_not_intro dx))
  obtain ⟨q, hq, rfl⟩ := kd_n (k := 2000) (by decide) dx
  rw [show (nI q).toNatClampNeg = q from nI_clamp (by omega)] at tc

  have eV : ∀ j, j ≤ q → fcV (kCpy (rd μ (X + 415 + 1)) (rd μ (X + 1))) a e f i b 3 (-1) j = vD (μ (M + 1)) e f i b 7 j := fun j hj => fc_P hJ hA (by omega) (by omega)
  rw [lea_congr q eV] at tc
  refine lf_fc hk hX hI tc fun μ1 n s => ?_
  have := t260y (G := G) (μ := μ1) (n := n) (s := s) hM hMA hJ hd (by omega) dx
  rwa [show (nI q).toNatClampNeg = q from nI_clamp (by omega)] at this
theorem op_144 (hS : SH y X M) {x : Int32} : OpI G y X M cdA 1 144 [.int x] 266 [.int x] := by
  intro k μ n s hk hI
  obtain ⟨hE, hF, hDL, hM, hMA, hX⟩ := hS
  have hI' := hI
  obtain ⟨⟨a, e, f, i, b, p, hJ, hA, hd⟩, ⟨e0, c, hH⟩, -⟩ := hI'
  have hO := hA.ct hJ
  have hc := hJ.2.1
  unfold Jc at hc
  have hN := hJ.1
  have d6 := hJ.d6
  have tc := t144 (G := G) (μ := μ) (n := n) (s := s) hE hF hO.1 ((hA.cpy (Z := rd μ (X + 415 + 1)) hJ).ct hJ) (x := x)
  have g0 : rd μ (X + 1) 0 = μ (M + 1) 0 := hA.g (lv_8 (by omega))
  have g1 : rd μ (X + 1) 1 = μ (M + 1) 1 := hA.g (lv_8 (by omega))
  have g2 : rd μ (X + 1) 2 = μ (M + 1) 2 := hA.g (lv_8 (by omega))
  have g3 : rd μ (X + 1) 3 = μ (M + 1) 3 := hA.g (lv_8 (by omega))
  have g4 : rd μ (X + 1) 4 = μ (M + 1) 4 := hA.g (lv_8 (by omega))
  have g5 : rd μ (X + 1) 5 = μ (M + 1) 5 := hA.g (lv_8 (by omega))
  have g6 := hA.d6 hJ
  have g7 : rd μ (X + 1) 7 = μ (M + 1) 7 := hA.g (lv_8 (by omega))
  try rw [g0] at tc
  try rw [g1] at tc
  try rw [g2] at tc
  try rw [g3] at tc
  try rw [g4] at tc
  try rw [g5] at tc
  by_cases dx : 0 ≤ x ∧ x ≤ 2000
  case neg => exact lf_exm hk hX hI (tc.trans (if_pos dx)) (fun μ1 n s => t266n hM dx) (by decide)
  replace tc := tc.trans (if_neg (not_not_intro dx))
  obtain ⟨q, hq, rfl⟩ := kd_n (k := 2000) (by decide) dx
  rw [show (nI q).toNatClampNeg = q from nI_clamp (by omega)] at tc

  have eV : ∀ j, j ≤ q → fcV (kCpy (rd μ (X + 415 + 1)) (rd μ (X + 1))) a e f i b 0 (-1) j = vS (μ (M + 1)) a e f i b j := fun j hj => fc_S hJ hA (by omega) (by omega)
  rw [lea_congr q eV, lea_fl] at tc
  refine lf_fc hk hX hI tc fun μ1 n s => ?_
  have := t266y (G := G) (μ := μ1) (n := n) (s := s) hM hMA hJ hd (by omega) dx
  rwa [show (nI q).toNatClampNeg = q from nI_clamp (by omega)] at this
theorem op_135 (hS : SH y X M) {z x : Int32} : OpI G y X M cd2 0 135 [.int z, .int x] 261 [.int z, .int x] := by
  intro k μ n s hk hI
  obtain ⟨hE, hF, hDL, hM, hMA, hX⟩ := hS
  have hI' := hI
  obtain ⟨⟨a, e, f, i, b, p, hJ, hA, hd⟩, ⟨e0, c, hH⟩, -⟩ := hI'
  have hO := hA.ct hJ
  have hc := hJ.2.1
  unfold Jc at hc
  have hN := hJ.1
  have d6 := hJ.d6
  have tc := t135 (G := G) (μ := μ) (n := n) (s := s) hE hF hO.1 ((hA.cpy (Z := rd μ (X + 415 + 1)) hJ).ct hJ) (z := z) (x := x)
  have g0 : rd μ (X + 1) 0 = μ (M + 1) 0 := hA.g (lv_8 (by omega))
  have g1 : rd μ (X + 1) 1 = μ (M + 1) 1 := hA.g (lv_8 (by omega))
  have g2 : rd μ (X + 1) 2 = μ (M + 1) 2 := hA.g (lv_8 (by omega))
  have g3 : rd μ (X + 1) 3 = μ (M + 1) 3 := hA.g (lv_8 (by omega))
  have g4 : rd μ (X + 1) 4 = μ (M + 1) 4 := hA.g (lv_8 (by omega))
  have g5 : rd μ (X + 1) 5 = μ (M + 1) 5 := hA.g (lv_8 (by omega))
  have g6 := hA.d6 hJ
  have g7 : rd μ (X + 1) 7 = μ (M + 1) 7 := hA.g (lv_8 (by omega))
  try rw [g0] at tc
  try rw [g1] at tc
  try rw [g2] at tc
  try rw [g3] at tc
  try rw [g4] at tc
  try rw [g5] at tc
  by_cases dz : inR z (μ (M + 1) 1)
  case neg => exact lf_exm hk hX hI (tc.trans (if_pos dz)) (fun μ1 n s => (by have := t261n (G := G) (x := x) (z := z) (μ := μ1) (n := n) (s := s) hM hJ (fun h => dz h.1); rwa [if_neg dz] at this)) (by decide)
  replace tc := tc.trans (if_neg (not_not_intro dz))
  by_cases dx : 0 ≤ x ∧ x ≤ 2000
  case neg => exact lf_exm hk hX hI (tc.trans (if_pos dx)) (fun μ1 n s => (by have := t261n (G := G) (x := x) (z := z) (μ := μ1) (n := n) (s := s) hM hJ (fun h => dx h.2); rwa [if_pos dz] at this)) (by decide)
  replace tc := tc.trans (if_neg (not_not_intro dx))
  have dz' := dz
  obtain ⟨z, hz, rfl⟩ := inR_n (c := e) (by omega) hJ.c1 dz
  obtain ⟨q, hq, rfl⟩ := kd_n (k := 2000) (by decide) dx
  rw [show (nI q).toNatClampNeg = q from nI_clamp (by omega)] at tc

  have eV : ∀ j, j < 0 + (q + 1) → fcB μ X (rd μ (X + 1)) a e f i b 2 (nI z) q j = vD (μ (M + 1)) e f i b (13 + 6 * z) j := fun j hj => by
    unfold fcB beh
    rw [if_pos (by omega)]
    exact fc_E hJ hA hz (by omega) (by omega)
  rw [fnB_congr (q + 1) 0 eV, fn_stp, g6.1] at tc
  have hs := (stp_le (V := vD (μ (M + 1)) e f i b (13 + 6 * z)) q 0).2
  refine lf_fc hk hX hI tc fun μ1 n s => ?_
  have := t261y (G := G) (μ := μ1) (n := n) (s := s) hM hMA hJ hd (by omega) dz' dx
  rw [show (nI q).toNatClampNeg = q from nI_clamp (by omega), show (nI z).toNatClampNeg = z from nI_clamp (by omega)] at this
  generalize hst : stp (vD (μ (M + 1)) e f i b (13 + 6 * z)) q 0 = t at *
  by_cases ht : vD (μ (M + 1)) e f i b (13 + 6 * z) t < 0
  · rw [if_pos ht, if_neg (nI_ne (by omega))]
    rw [if_pos ht] at this
    have e5 : (pDays (μ (M + 1)) e f i b t 6).toInt32 = (μ (M + 1) 6).toInt32 + nI t := by
      apply Int32.toInt_inj.mp
      have := (hJ.days t (by omega) (by omega)).2
      rw [to32 (by omega) (by omega), this, (d_add hJ (by omega)).2]
    rwa [e5] at this
  · rw [if_neg ht, if_pos rfl]
    rwa [if_neg ht] at this
theorem op_150 (hS : SH y X M) {z x : Int32} : OpI G y X M cdA 0 150 [.int z, .int x] 268 [.int z, .int x] := by
  intro k μ n s hk hI
  obtain ⟨hE, hF, hDL, hM, hMA, hX⟩ := hS
  have hI' := hI
  obtain ⟨⟨a, e, f, i, b, p, hJ, hA, hd⟩, ⟨e0, c, hH⟩, -⟩ := hI'
  have hO := hA.ct hJ
  have hc := hJ.2.1
  unfold Jc at hc
  have hN := hJ.1
  have d6 := hJ.d6
  have tc := t150 (G := G) (μ := μ) (n := n) (s := s) hE hF hO.1 ((hA.cpy (Z := rd μ (X + 415 + 1)) hJ).ct hJ) (z := z) (x := x)
  have g0 : rd μ (X + 1) 0 = μ (M + 1) 0 := hA.g (lv_8 (by omega))
  have g1 : rd μ (X + 1) 1 = μ (M + 1) 1 := hA.g (lv_8 (by omega))
  have g2 : rd μ (X + 1) 2 = μ (M + 1) 2 := hA.g (lv_8 (by omega))
  have g3 : rd μ (X + 1) 3 = μ (M + 1) 3 := hA.g (lv_8 (by omega))
  have g4 : rd μ (X + 1) 4 = μ (M + 1) 4 := hA.g (lv_8 (by omega))
  have g5 : rd μ (X + 1) 5 = μ (M + 1) 5 := hA.g (lv_8 (by omega))
  have g6 := hA.d6 hJ
  have g7 : rd μ (X + 1) 7 = μ (M + 1) 7 := hA.g (lv_8 (by omega))
  try rw [g0] at tc
  try rw [g1] at tc
  try rw [g2] at tc
  try rw [g3] at tc
  try rw [g4] at tc
  try rw [g5] at tc
  by_cases dz : 1 ≤ z ∧ z ≤ 1000000
  case neg => exact lf_exm hk hX hI (tc.trans (if_pos dz)) (fun μ1 n s => t268n hM fun h => dz h.1) (by decide)
  replace tc := tc.trans (if_neg (not_not_intro dz))
  by_cases dx : 1 ≤ x ∧ x ≤ 2000
  case neg => exact lf_exm hk hX hI (tc.trans (if_pos dx)) (fun μ1 n s => t268n hM fun h => dx h.2) (by decide)
  replace tc := tc.trans (if_neg (not_not_intro dx))
  have hv := i64_v (lo := 1) (hi := 1000000) (by omega) dz (by omega)
  obtain ⟨q, hq, rfl⟩ := kd_n (k := 2000) (by decide) ⟨Int32.le_trans (by decide) dx.1, dx.2⟩
  have hq1 : 1 ≤ q := by
    have := dx.1
    rwa [show (1 : Int32) = nI 1 from rfl, mI_le (by decide) (by omega)] at this
  rw [show (nI q).toNatClampNeg = q from nI_clamp (by omega)] at tc
  have eV : ∀ j, j ≤ q → fcV (kCpy (rd μ (X + 415 + 1)) (rd μ (X + 1))) a e f i b 0 (-1) j = vS (μ (M + 1)) a e f i b j := fun j hj => fc_S hJ hA (by omega) (by omega)
  have e1 : ∀ j, j ≤ q → fcB μ X (rd μ (X + 1)) a e f i b 0 (-1) q j = vS (μ (M + 1)) a e f i b j := fun j hj => by
    unfold fcB beh
    rw [if_pos hj]
    exact eV j hj
  have e2 : ∀ j, j ≤ q → fcQ μ X (rd μ (X + 1)) a e f i b 0 (-1) q j = lea (vS (μ (M + 1)) a e f i b) j := fun j hj => by
    unfold fcQ beh
    rw [if_pos hj]
    exact lea_congr j fun t ht => eV t (by omega)
  rw [bdL_congr e1 e2, bd_pb hq1 (vS_b hJ (by omega) (by omega)) (by omega), g6.1] at tc
  refine lf_fc hk hX hI tc fun μ1 n s => ?_
  have := t268y (G := G) (μ := μ1) (n := n) (s := s) hM hMA hJ hd (by omega) dz dx
  rwa [show (nI q).toNatClampNeg = q from nI_clamp (by omega)] at this
theorem op_138 (hS : SH y X M) {x : Int32} : OpI G y X M cdB 1 138 [.int x] 262 [.int x] := by
  intro k μ n s hk hI
  obtain ⟨hE, hF, hDL, hM, hMA, hX⟩ := hS
  have hI' := hI
  obtain ⟨⟨a, e, f, i, b, p, hJ, hA, hd⟩, ⟨e0, c, hH⟩, -⟩ := hI'
  have hO := hA.ct hJ
  have hc := hJ.2.1
  unfold Jc at hc
  have hN := hJ.1
  have d6 := hJ.d6
  have tc := t138 (G := G) (μ := μ) (n := n) (s := s) hE hF hO.1 ((hA.cpy (Z := rd μ (X + 415 + 1)) hJ).ct hJ) (x := x)
  have g0 : rd μ (X + 1) 0 = μ (M + 1) 0 := hA.g (lv_8 (by omega))
  have g1 : rd μ (X + 1) 1 = μ (M + 1) 1 := hA.g (lv_8 (by omega))
  have g2 : rd μ (X + 1) 2 = μ (M + 1) 2 := hA.g (lv_8 (by omega))
  have g3 : rd μ (X + 1) 3 = μ (M + 1) 3 := hA.g (lv_8 (by omega))
  have g4 : rd μ (X + 1) 4 = μ (M + 1) 4 := hA.g (lv_8 (by omega))
  have g5 : rd μ (X + 1) 5 = μ (M + 1) 5 := hA.g (lv_8 (by omega))
  have g6 := hA.d6 hJ
  have g7 : rd μ (X + 1) 7 = μ (M + 1) 7 := hA.g (lv_8 (by omega))
  try rw [g0] at tc
  try rw [g1] at tc
  try rw [g2] at tc
  try rw [g3] at tc
  try rw [g4] at tc
  try rw [g5] at tc
  by_cases dx : inR x (μ (M + 1) 2)
  case neg => exact lf_exm hk hX hI (tc.trans (if_pos dx)) (fun μ1 n s => t262n hM hJ dx) (by decide)
  replace tc := tc.trans (if_neg (not_not_intro dx))
  obtain ⟨x, hx, rfl⟩ := inR_n (c := f) (by omega) hJ.c2 dx
  rw [show (nI x).toNatClampNeg = x from nI_clamp (by omega)] at tc
  have hn := hJ.fn (q := x) (by omega)
  have ht := hJ.ft (q := x) (by omega)
  have e0 : ((μ (M + 1) (73 + 6 * x + 2)).toInt32 - (μ (M + 1) 6).toInt32).toInt = (μ (M + 1) (73 + 6 * x + 2)).toInt - (μ (M + 1) 6).toInt := by
    rw [Int32.toInt_sub, to32 (by omega) (by omega), to32 (by omega) (by omega)]
    exact Int.bmod_eq_of_le (by omega) (by omega)
  have e1 := is_ (x := μ (M + 1) (73 + 6 * x + 2)) (y := μ (M + 1) 6) (by omega) (by omega)
  have c2 : (2000 < (μ (M + 1) (73 + 6 * x + 2)).toInt32 - (μ (M + 1) 6).toInt32) = (2000 < μ (M + 1) (73 + 6 * x + 2) - μ (M + 1) 6) := by
    apply propext
    rw [Int32.lt_iff_toInt_lt, Int64.lt_iff_toInt_lt, e0, e1]
    exact Iff.rfl
  have gn : rd μ (X + 1) (73 + 6 * x + 2) = μ (M + 1) (73 + 6 * x + 2) := hA.g (lv_f hx (by decide))
  have m2 := m1_32 (x := μ (M + 1) (73 + 6 * x + 2)) (by omega)
  simp only [gn, g6.1, m2, c2] at tc
  by_cases dg : μ (M + 1) (73 + 6 * x + 2) = -1 ∨ 2000 < μ (M + 1) (73 + 6 * x + 2) - μ (M + 1) 6
  · exact lf_same hk hX hI (tc.trans (if_pos dg)) fun μ1 n s _ => t262g hM hJ hx dg
  replace tc := tc.trans (if_neg dg)
  have d1 : ¬ μ (M + 1) (73 + 6 * x + 2) = -1 := fun q => dg (Or.inl q)
  have d2 : μ (M + 1) (73 + 6 * x + 2) - μ (M + 1) 6 ≤ 2000 := Int64.not_lt.mp fun q => dg (Or.inr q)
  have d3 : (μ (M + 1) (73 + 6 * x + 2)).toInt - (μ (M + 1) 6).toInt ≤ 2000 := by
    have := Int64.le_iff_toInt_le.mp d2
    rw [e1, show (2000 : Int64).toInt = 2000 by decide] at this
    exact this
  have em : ((μ (M + 1) (73 + 6 * x + 2)).toInt32 - (μ (M + 1) 6).toInt32).toNatClampNeg - 1 = ((μ (M + 1) (73 + 6 * x + 2)).toInt - (μ (M + 1) 6).toInt - 1).toNat := by
    show ((μ (M + 1) (73 + 6 * x + 2)).toInt32 - (μ (M + 1) 6).toInt32).toInt.toNat - 1 = _
    rw [e0]
    omega
  unfold kLk at tc
  rw [em] at tc
  generalize hm : ((μ (M + 1) (73 + 6 * x + 2)).toInt - (μ (M + 1) 6).toInt - 1).toNat = m at *
  have hm2 : m ≤ 1999 := by omega
  obtain ⟨sm', jm⟩ := fc_al hJ hA (Z := rd μ (X + 415 + 1)) (j := m) (by omega) (by omega)
  have dm := (hJ.days m (by omega) (by omega)).2
  have sd := sm'.day jm (by omega) (by omega)
  have jd := jm.beg (by omega) (by omega)
  have e7 : kDay (kDays (kCpy (rd μ (X + 415 + 1)) (rd μ (X + 1))) e f i b m) e f i b (73 + 6 * x) = pFns (pBeg (pDays (μ (M + 1)) e f i b m) e f i b) x (73 + 6 * x) := by
    rw [sd.g (lv_f0 hx)]
    exact (pFns_fr (q := x) (r := 0) (by omega) (by decide) jd x (Nat.le_refl _) (by omega) (by omega)).symm
  have e8 : (kDay (kDays (kCpy (rd μ (X + 415 + 1)) (rd μ (X + 1))) e f i b m) e f i b (73 + 6 * x + 1)).toInt32.toInt64 = pFns (pBeg (pDays (μ (M + 1)) e f i b m) e f i b) x (73 + 6 * x + 1) := by
    have ht2 := jd.ft (q := x) (by omega)
    rw [sd.g (lv_f hx (by decide)), i64_32r (by omega) (by omega)]
    exact (pFns_fr (q := x) (r := 1) (by omega) (by decide) jd x (Nat.le_refl _) (by omega) (by omega)).symm
  rw [e7, e8] at tc
  refine lf_fc hk hX hI tc fun μ1 n s => ?_
  exact t262y (G := G) (μ := μ1) (n := n) (s := s) hM hMA hJ hd (by omega) hx hm.symm hm2 d1 d2
end OPZ
