/-! ===== A call of the class beside the model's, 1 ===== -/
/-- what the law reads for an exception: 0 where it does not catch it -/
def cd2 (E : Nat) : Int64 := if E = 102 then 1 else if E = 101 then 2 else 0
def cdA (E : Nat) : Int64 := if E = 101 then 1 else 0
def cdB (E : Nat) : Int64 := if E = 102 then 1 else 0
/-- a call that throws nothing -/
def cd0 (_ : Nat) : Int64 := 0
/-- the law's own cells aside -/
def Lx (M : Nat) (μ ν : qMu) : Prop := ∀ a, a ≠ M + 15 → a ≠ M + 16 → ν a = μ a
/-- the kind of a value -/
def vk (v : Value) : Nat := match v with
  | .int _ => 0
  | .long _ => 1
  | .double _ => 2
  | .float x => if FP.f2d x &&& 0x7fffffffffffffff ≤ 0x7ff0000000000000 then 3 else 5
  | _ => 4
def OpL (G : qG) (y : Nat → Option qSh) (X M : Nat) (cd : Nat → Int64) (kd : Nat) (cm : Nat) (ca : List Value) (mm : Nat) (ma : List Value) (k : Nat) (μ : qMu) (n s : Nat) : Prop :=
  (∃ E v', qR PG G (qEntry PG cm (.ref X :: ca) (MK y μ n s)) = exc E y μ n s ∧ cd E ≠ 0 ∧ vk v' = kd ∧ ∀ μ1 n s, Lx M μ μ1 → ∃ μ2, Iv G y X M (k + 1) μ2 ∧ Fx M μ1 μ2 ∧ qR PG G (qEntry PG mm (.ref M :: ma) (MK y μ1 n s)) = some (.inl (some v'), MK y μ2 n s) ∧ μ2 M 7 = cd E) ∨
   (∃ v ν, qR PG G (qEntry PG cm (.ref X :: ca) (MK y μ n s)) = some (.inl (some v), MK y ν n s) ∧ Fx M μ ν ∧ vk v = kd ∧ ∀ μ1 n s, Lx M ν μ1 → ∃ μ2, Iv G y X M (k + 1) μ2 ∧ Fx M μ1 μ2 ∧ qR PG G (qEntry PG mm (.ref M :: ma) (MK y μ1 n s)) = some (.inl (some v), MK y μ2 n s) ∧ μ2 M 7 = 0)
def OpI (G : qG) (y : Nat → Option qSh) (X M : Nat) (cd : Nat → Int64) (kd : Nat) (cm : Nat) (ca : List Value) (mm : Nat) (ma : List Value) : Prop := ∀ k μ n s, k < 900 → Iv G y X M k μ → OpL G y X M cd kd cm ca mm ma k μ n s
section OPS
variable {G : qG} {y : Nat → Option qSh} {μ ν μ1 : qMu} {X M k n s e0 c : Nat} {cd : Nat → Int64} {kd cm mm : Nat} {ca ma : List Value} {C' D' : Row} {v v' : Value} {E : Nat} {x z u w a' : Int32}
theorem Lx.rfl' : Lx M μ μ := fun _ _ _ => rfl
theorem Lx.eqM (h : Lx M μ ν) : ν M = μ M := h M (by omega) (by omega)
theorem lx6 (h : Lx M μ μ1) (hH : HiR μ X M k e0 c) : (μ1 M 6).toInt32 = nI c := by rw [h.eqM]; exact hH.2.1
theorem Iv.lx (h : Iv G y X M k μ) (hXM : X + 465 ≤ M) (hx : Lx M μ ν) : Iv G y X M k ν := h.same hXM (fun a h1 h2 => hx a (by omega) (by omega)) (hx _ (by omega) (by omega)) (hx _ (by omega) (by omega)) (hx _ (by omega) (by omega)) (fun i _ => by rw [hx.eqM])
theorem Lx.self1 {D : Row} (h : Lx M μ μ1) (hD : D = μ (M + 1)) : stc μ1 (M + 1) D = μ1 := by
  rw [hD, ← h (M + 1) (by omega) (by omega), stc_self]
theorem lf_exc (hk : k < 900) (hX : X + 465 ≤ M) (hI : Iv G y X M k μ) (tc : qR PG G (qEntry PG cm (.ref X :: ca) (MK y (wr μ (X + 1) (rd μ (X + 1))) n s)) = exc E y (wr μ (X + 1) (rd μ (X + 1))) n s) (tm : ∀ μ1 n s, Lx M μ μ1 → qR PG G (qEntry PG mm (.ref M :: ma) (MK y (stc μ1 (M + 1) (μ (M + 1))) n s)) = some (.inl (some v'), MK y (MT μ1 M (μ (M + 1)) (cd E)) n s)) (hE : cd E ≠ 0) (hv : vk v' = kd := by rfl) : OpL G y X M cd kd cm ca mm ma k μ n s := by
  rw [wr_rd] at tc
  refine Or.inl ⟨E, v', tc, hE, hv, fun μ1 n s hx => ⟨MT μ1 M (μ (M + 1)) (cd E), ?_, fx_mt, ?_, mt_7⟩⟩
  · have e1 : μ (M + 1) = μ1 (M + 1) := (hx (M + 1) (by omega) (by omega)).symm
    rw [e1]
    exact ((hI.lx hX hx).mt hX).mono (Nat.le_succ k) (by omega)
  · have := tm μ1 n s hx
    rwa [hx.self1 rfl] at this
theorem lf_same (hk : k < 900) (hX : X + 465 ≤ M) (hI : Iv G y X M k μ) (tc : qR PG G (qEntry PG cm (.ref X :: ca) (MK y (wr μ (X + 1) (rd μ (X + 1))) n s)) = some (.inl (some v), MK y (wr μ (X + 1) (rd μ (X + 1))) n s)) (tm : ∀ μ1 n s, Lx M μ μ1 → qR PG G (qEntry PG mm (.ref M :: ma) (MK y (stc μ1 (M + 1) (μ (M + 1))) n s)) = some (.inl (some v), MK y (MT μ1 M (μ (M + 1)) 0) n s)) (hv : vk v = kd := by rfl) : OpL G y X M cd kd cm ca mm ma k μ n s := by
  rw [wr_rd] at tc
  refine Or.inr ⟨v, μ, tc, Fx.rfl', hv, fun μ1 n s hx => ⟨MT μ1 M (μ (M + 1)) 0, ?_, fx_mt, ?_, mt_7⟩⟩
  · have e1 : μ (M + 1) = μ1 (M + 1) := (hx (M + 1) (by omega) (by omega)).symm
    rw [e1]
    exact ((hI.lx hX hx).mt hX).mono (Nat.le_succ k) (by omega)
  · have := tm μ1 n s hx
    rwa [hx.self1 rfl] at this
theorem MKp_lx {D D' : Row} (h : Lx M ν μ1) : Lx M (stc (MKp ν M D c) (M + 1) D') (stc (MKp μ1 M D c) (M + 1) D') := fun a h1 h2 => by
  by_cases q1 : a = M + 1
  · rw [q1, stc_eq, stc_eq]
  rw [stc_ne q1, stc_ne q1]
  unfold MKp mKeep
  by_cases q2 : a = M
  · rw [q2, stc_eq, stc_eq, stc_eq, stc_eq, h.eqM]
  rw [stc_ne q2, stc_ne q2]
  by_cases q3 : a = M + 4
  · rw [q3, stc_eq, stc_eq, stc_ne (by omega), stc_ne (by omega), h (M + 4) (by omega) (by omega)]
  rw [stc_ne q3, stc_ne q3, stc_ne q2, stc_ne q2]
  exact h a h1 h2
theorem MKp_fx {D D' : Row} : Fx M μ1 (stc (MKp μ1 M D c) (M + 1) D') := fun a ha => by
  unfold MKp mKeep
  rw [stc_ne (by omega), stc_ne (by omega), stc_ne (by omega), stc_ne (by omega)]
theorem MKp_7 {D D' : Row} : stc (MKp μ1 M D c) (M + 1) D' M 7 = 0 := by
  unfold MKp mKeep
  rw [stc_ne (by omega), stc_eq, stc_eq, sv_get, if_neg (by decide), sv_get, if_pos rfl]
theorem lf_act (hk : k < 900) (hX : X + 465 ≤ M) (hI : Iv G y X M k μ) (hH : HiR μ X M k e0 c) (hP : PR (k + 1) C' D') (tc : qR PG G (qEntry PG cm (.ref X :: ca) (MK y (wr μ (X + 1) (rd μ (X + 1))) n s)) = some (.inl (some v), MK y (wr (hRem μ (X + 85) e0 c (rd μ (X + 1))) (X + 1) C') n s)) (tm : ∀ μ1 n s, (μ1 M 6).toInt32 = nI c → qR PG G (qEntry PG mm (.ref M :: ma) (MK y (stc μ1 (M + 1) (μ (M + 1))) n s)) = some (.inl (some v), MK y (stc (MKp μ1 M (μ (M + 1)) c) (M + 1) D') n s)) (hv : vk v = kd := by rfl) : OpL G y X M cd kd cm ca mm ma k μ n s := by
  have he := hH.1.2.1
  have hi : ∀ a, M ≤ a → wr (hRem μ (X + 85) e0 c (rd μ (X + 1))) (X + 1) C' a = μ a := fun a ha => by
    rw [wr_out (by omega)]
    unfold hRem
    rw [stc_ne (by omega), wr_out (by omega)]
  rw [wr_rd] at tc
  refine Or.inr ⟨v, _, tc, fun a ha => hi a (by omega), hv, fun μ1 n s hx => ⟨stc (MKp μ1 M (μ (M + 1)) c) (M + 1) D', ((hI.act (D' := D') hX hH (by omega) hP).lx hX (MKp_lx hx)), MKp_fx, ?_, MKp_7⟩⟩
  have := tm μ1 n s (by rw [hx.eqM, hi _ (Nat.le_refl _)]; exact hH.2.1)
  rwa [hx.self1 (by rw [hi _ (by omega)])] at this
/-- an index within a count -/
theorem inR_n {x : Int32} {c : Nat} (hc : c ≤ 400) {v : Int64} (hv : v = (nI c).toInt64) (h : inR x v) : ∃ q, q < c ∧ x = nI q := by
  subst hv
  unfold inR at h
  rw [i64_32] at h
  exact ⟨x.toNatClampNeg, i32_lt (by omega) h.2 h.1, i32_of h.1⟩
theorem i64_v {v : Int32} {lo hi : Nat} (hh : hi < 2 ^ 31) (h : nI lo ≤ v ∧ v ≤ nI hi) (hl : lo ≤ hi) : (lo : Int) ≤ v.toInt64.toInt ∧ v.toInt64.toInt ≤ hi := by
  rw [Int32.toInt_toInt64]
  have h1 := Int32.le_iff_toInt_le.mp h.1
  have h2 := Int32.le_iff_toInt_le.mp h.2
  rw [nI_32 (by omega)] at h1 h2
  exact ⟨h1, h2⟩
theorem g_neg32 {v : Int32} (h : -2 ^ 31 < v.toInt) : (-v).toInt64 = -(v.toInt64) := by
  apply i64_ext
  have hr := Int32.toInt_lt v
  rw [Int32.toInt_toInt64, in_ (by rw [Int32.toInt_toInt64]; omega), Int32.toInt_toInt64, Int32.toInt_neg]
  exact Int.bmod_eq_of_le (by omega) (by omega)
theorem op_106 (hS : SH y X M) {x z v : Int32} : OpI G y X M cd2 1 106 [.int x, .int z, .int v] 226 [.int x, .int z, .int v] := by
  intro k μ n s hk hI
  obtain ⟨hE, hF, hDL, hM, hMA, hX⟩ := hS
  have hI' := hI
  obtain ⟨⟨a, e, f, i, b, p, hJ, hA, hd⟩, ⟨e0, c, hH⟩, -⟩ := hI'
  have hO := hA.ct hJ
  have hc := hJ.2.1
  unfold Jc at hc
  have hN := hJ.1
  have d6 := hJ.d6
  have tc := t106 (G := G) (μ := μ) (n := n) (s := s) hE hH.1 hO (x := x) (a := z) (v := v)
  have tm := fun (μ1 : qMu) (n s : Nat) h6 => t226 (G := G) (μ := μ1) (n := n) (s := s) hM hMA hJ hH.1.2.2.2 h6 (x := x) (z := z) (v := v)
  have g0 : rd μ (X + 1) 0 = μ (M + 1) 0 := hA.g (lv_8 (by omega))
  have g1 : rd μ (X + 1) 1 = μ (M + 1) 1 := hA.g (lv_8 (by omega))
  have g2 : rd μ (X + 1) 2 = μ (M + 1) 2 := hA.g (lv_8 (by omega))
  have g3 : rd μ (X + 1) 3 = μ (M + 1) 3 := hA.g (lv_8 (by omega))
  have g4 : rd μ (X + 1) 4 = μ (M + 1) 4 := hA.g (lv_8 (by omega))
  have g5 : rd μ (X + 1) 5 = μ (M + 1) 5 := hA.g (lv_8 (by omega))
  have g6 := hA.d6 hJ
  have g7 : rd μ (X + 1) 7 = μ (M + 1) 7 := hA.g (lv_8 (by omega))
  try rw [g0] at tc
  try rw [g1] at tc
  try rw [g2] at tc
  try rw [g3] at tc
  try rw [g4] at tc
  try rw [g5] at tc
  by_cases d1 : inR x (μ (M + 1) 1)
  case neg => exact lf_exc hk hX hI (tc.trans (if_pos d1)) (fun μ1 n s hx => (tm μ1 n s (lx6 hx hH)).trans (if_pos d1)) (by decide)
  replace tc := tc.trans (if_neg (not_not_intro d1))
  replace tm := fun μ1 n s h6 => (tm μ1 n s h6).trans (if_neg (not_not_intro d1))
  by_cases d2 : inR z (μ (M + 1) 0)
  case neg => exact lf_exc hk hX hI (tc.trans (if_pos d2)) (fun μ1 n s hx => (tm μ1 n s (lx6 hx hH)).trans (if_pos d2)) (by decide)
  replace tc := tc.trans (if_neg (not_not_intro d2))
  replace tm := fun μ1 n s h6 => (tm μ1 n s h6).trans (if_neg (not_not_intro d2))
  by_cases d3 : 1 ≤ v ∧ v ≤ 1000000
  case neg => exact lf_exc hk hX hI (tc.trans (if_pos d3)) (fun μ1 n s hx => (tm μ1 n s (lx6 hx hH)).trans (if_pos d3)) (by decide)
  replace tc := tc.trans (if_neg (not_not_intro d3))
  replace tm := fun μ1 n s h6 => (tm μ1 n s h6).trans (if_neg (not_not_intro d3))
  obtain ⟨x, hx, rfl⟩ := inR_n (c := e) (by omega) hJ.c1 d1
  have zx : (nI x).toNatClampNeg = x := nI_clamp (by omega)
  try rw [zx] at tc
  try simp only [zx] at tm
  obtain ⟨z, hz, rfl⟩ := inR_n (c := a) (by omega) hJ.c0 d2
  have zz : (nI z).toNatClampNeg = z := nI_clamp (by omega)
  try rw [zz] at tc
  try simp only [zz] at tm
  have hv := i64_v (lo := 1) (hi := 1000000) (by omega) d3 (by omega)
  have s1 : AL a e f i b (kChg (rd μ (X + 1)) (nI z) (-v).toInt64) (sv (μ (M + 1)) (9 + z) (μ (M + 1) (9 + z) - v.toInt64)) := by
    rw [← i_sub]
    exact hA.chg hJ hz (g_neg32 (by rw [Int32.toInt_toInt64] at hv; omega))
  have j1 : J (23 * (μ (M + 1) 6).toInt.toNat + k + 1 + 1) a e f i b p (sv (μ (M + 1)) (9 + z) (μ (M + 1) (9 + z) - v.toInt64)) := hJ.acs (by omega) (by omega) (by omega)
  have s2 : AL a e f i b (kSpend (kChg (rd μ (X + 1)) (nI z) (-v).toInt64) x v.toInt64) (pSpe (μ (M + 1)) x z v.toInt64) := s1.tak j1 hx rfl
  have e6 : pSpe (μ (M + 1)) x z v.toInt64 6 = μ (M + 1) 6 := pSpe_o (fun f => by omega) (by omega) (by omega) (by omega)
  refine lf_act hk hX hI hH (C' := kSpend (kChg (rd μ (X + 1)) (nI z) (-v).toInt64) x v.toInt64) (D' := pSpe (μ (M + 1)) x z v.toInt64) ⟨a, e, f, i, b, p, by rw [e6]; exact j1.tak hx, s2, by rw [e6]; exact hd⟩ tc fun μ1 n s h6 => ?_
  rw [s2.g (lv_e0 hx)]
  exact tm μ1 n s h6
theorem op_112 (hS : SH y X M) {x z v : Int32} : OpI G y X M cd2 1 112 [.int x, .int z, .int v] 232 [.int x, .int z, .int v] := by
  intro k μ n s hk hI
  obtain ⟨hE, hF, hDL, hM, hMA, hX⟩ := hS
  have hI' := hI
  obtain ⟨⟨a, e, f, i, b, p, hJ, hA, hd⟩, ⟨e0, c, hH⟩, -⟩ := hI'
  have hO := hA.ct hJ
  have hc := hJ.2.1
  unfold Jc at hc
  have hN := hJ.1
  have d6 := hJ.d6
  have tc := t112 (G := G) (μ := μ) (n := n) (s := s) hE hH.1 hO (a := x) (a' := z) (v := v)
  have tm := fun (μ1 : qMu) (n s : Nat) h6 => t232 (G := G) (μ := μ1) (n := n) (s := s) hM hMA hJ hH.1.2.2.2 h6 (x := x) (z := z) (v := v)
  have g0 : rd μ (X + 1) 0 = μ (M + 1) 0 := hA.g (lv_8 (by omega))
  have g1 : rd μ (X + 1) 1 = μ (M + 1) 1 := hA.g (lv_8 (by omega))
  have g2 : rd μ (X + 1) 2 = μ (M + 1) 2 := hA.g (lv_8 (by omega))
  have g3 : rd μ (X + 1) 3 = μ (M + 1) 3 := hA.g (lv_8 (by omega))
  have g4 : rd μ (X + 1) 4 = μ (M + 1) 4 := hA.g (lv_8 (by omega))
  have g5 : rd μ (X + 1) 5 = μ (M + 1) 5 := hA.g (lv_8 (by omega))
  have g6 := hA.d6 hJ
  have g7 : rd μ (X + 1) 7 = μ (M + 1) 7 := hA.g (lv_8 (by omega))
  try rw [g0] at tc
  try rw [g1] at tc
  try rw [g2] at tc
  try rw [g3] at tc
  try rw [g4] at tc
  try rw [g5] at tc
  by_cases d1 : inR x (μ (M + 1) 0)
  case neg => exact lf_exc hk hX hI (tc.trans (if_pos d1)) (fun μ1 n s hx => (tm μ1 n s (lx6 hx hH)).trans (if_pos d1)) (by decide)
  replace tc := tc.trans (if_neg (not_not_intro d1))
  replace tm := fun μ1 n s h6 => (tm μ1 n s h6).trans (if_neg (not_not_intro d1))
  by_cases d2 : inR z (μ (M + 1) 0)
  case neg => exact lf_exc hk hX hI (tc.trans (if_pos d2)) (fun μ1 n s hx => (tm μ1 n s (lx6 hx hH)).trans (if_pos d2)) (by decide)
  replace tc := tc.trans (if_neg (not_not_intro d2))
  replace tm := fun μ1 n s h6 => (tm μ1 n s h6).trans (if_neg (not_not_intro d2))
  by_cases d3 : x = z
  case pos => exact lf_exc hk hX hI (tc.trans (if_pos d3)) (fun μ1 n s hx => (tm μ1 n s (lx6 hx hH)).trans (if_pos (not_not_intro d3))) (by decide)
  replace tc := tc.trans (if_neg d3)
  replace tm := fun μ1 n s h6 => (tm μ1 n s h6).trans (if_neg (not_not_intro d3))
  by_cases d4 : 1 ≤ v ∧ v ≤ 1000000
  case neg => exact lf_exc hk hX hI (tc.trans (if_pos d4)) (fun μ1 n s hx => (tm μ1 n s (lx6 hx hH)).trans (if_pos d4)) (by decide)
  replace tc := tc.trans (if_neg (not_not_intro d4))
  replace tm := fun μ1 n s h6 => (tm μ1 n s h6).trans (if_neg (not_not_intro d4))
  obtain ⟨x, hx, rfl⟩ := inR_n (c := a) (by omega) hJ.c0 d1
  have zx : (nI x).toNatClampNeg = x := nI_clamp (by omega)
  try rw [zx] at tc
  try simp only [zx] at tm
  obtain ⟨z, hz, rfl⟩ := inR_n (c := a) (by omega) hJ.c0 d2
  have zz : (nI z).toNatClampNeg = z := nI_clamp (by omega)
  try rw [zz] at tc
  try simp only [zz] at tm
  have hv := i64_v (lo := 1) (hi := 1000000) (by omega) d4 (by omega)
  have s1 : AL a e f i b (kChg (rd μ (X + 1)) (nI x) (-v).toInt64) (sv (μ (M + 1)) (9 + x) (μ (M + 1) (9 + x) - v.toInt64)) := by
    rw [← i_sub]
    exact hA.chg hJ hx (g_neg32 (by rw [Int32.toInt_toInt64] at hv; omega))
  have j1 : J (23 * (μ (M + 1) 6).toInt.toNat + k + 1 + 1) a e f i b p (sv (μ (M + 1)) (9 + x) (μ (M + 1) (9 + x) - v.toInt64)) := hJ.acs (by omega) (by omega) (by omega)
  have s2 : AL a e f i b (kChg (kChg (rd μ (X + 1)) (nI x) (-v).toInt64) (nI z) v.toInt64) (pShf (μ (M + 1)) (9 + x) (9 + z) v.toInt64) := s1.chg j1 hz rfl
  have hxz : x ≠ z := fun q => d3 (by rw [q])
  have e6 : pShf (μ (M + 1)) (9 + x) (9 + z) v.toInt64 6 = μ (M + 1) 6 := pShf_o (by omega) (by omega)
  have j2 : J (23 * (μ (M + 1) 6).toInt.toNat + k + 1 + 1) a e f i b p (pShf (μ (M + 1)) (9 + x) (9 + z) v.toInt64) := by
    unfold pShf
    refine j1.put ?_
    rw [sv_get, if_neg (by omega)]
    exact (hJ.acc (by omega) (x := z) (v := v.toInt64) (by omega) (by omega)).2.2 (9 + z) |> fun h => by rwa [sv_get, if_pos rfl] at h
  refine lf_act hk hX hI hH (C' := kChg (kChg (rd μ (X + 1)) (nI x) (-v).toInt64) (nI z) v.toInt64) (D' := pShf (μ (M + 1)) (9 + x) (9 + z) v.toInt64) ⟨a, e, f, i, b, p, by rw [e6]; exact j2, s2, by rw [e6]; exact hd⟩ tc fun μ1 n s h6 => ?_
  rw [s2.g (lv_a hx)]
  exact tm μ1 n s h6
theorem op_113 (hS : SH y X M) {x v : Int32} : OpI G y X M cd2 1 113 [.int x, .int v] 233 [.int x, .int v] := by
  intro k μ n s hk hI
  obtain ⟨hE, hF, hDL, hM, hMA, hX⟩ := hS
  have hI' := hI
  obtain ⟨⟨a, e, f, i, b, p, hJ, hA, hd⟩, ⟨e0, c, hH⟩, -⟩ := hI'
  have hO := hA.ct hJ
  have hc := hJ.2.1
  unfold Jc at hc
  have hN := hJ.1
  have d6 := hJ.d6
  have tc := t113 (G := G) (μ := μ) (n := n) (s := s) hE hH.1 hO (a := x) (v := v)
  have tm := fun (μ1 : qMu) (n s : Nat) h6 => t233 (G := G) (μ := μ1) (n := n) (s := s) hM hMA hJ hH.1.2.2.2 h6 (x := x) (v := v)
  have g0 : rd μ (X + 1) 0 = μ (M + 1) 0 := hA.g (lv_8 (by omega))
  have g1 : rd μ (X + 1) 1 = μ (M + 1) 1 := hA.g (lv_8 (by omega))
  have g2 : rd μ (X + 1) 2 = μ (M + 1) 2 := hA.g (lv_8 (by omega))
  have g3 : rd μ (X + 1) 3 = μ (M + 1) 3 := hA.g (lv_8 (by omega))
  have g4 : rd μ (X + 1) 4 = μ (M + 1) 4 := hA.g (lv_8 (by omega))
  have g5 : rd μ (X + 1) 5 = μ (M + 1) 5 := hA.g (lv_8 (by omega))
  have g6 := hA.d6 hJ
  have g7 : rd μ (X + 1) 7 = μ (M + 1) 7 := hA.g (lv_8 (by omega))
  try rw [g0] at tc
  try rw [g1] at tc
  try rw [g2] at tc
  try rw [g3] at tc
  try rw [g4] at tc
  try rw [g5] at tc
  by_cases d1 : inR x (μ (M + 1) 0)
  case neg => exact lf_exc hk hX hI (tc.trans (if_pos d1)) (fun μ1 n s hx => (tm μ1 n s (lx6 hx hH)).trans (if_pos d1)) (by decide)
  replace tc := tc.trans (if_neg (not_not_intro d1))
  replace tm := fun μ1 n s h6 => (tm μ1 n s h6).trans (if_neg (not_not_intro d1))
  by_cases d2 : 1 ≤ v ∧ v ≤ 1000000
  case neg => exact lf_exc hk hX hI (tc.trans (if_pos d2)) (fun μ1 n s hx => (tm μ1 n s (lx6 hx hH)).trans (if_pos d2)) (by decide)
  replace tc := tc.trans (if_neg (not_not_intro d2))
  replace tm := fun μ1 n s h6 => (tm μ1 n s h6).trans (if_neg (not_not_intro d2))
  obtain ⟨x, hx, rfl⟩ := inR_n (c := a) (by omega) hJ.c0 d1
  have zx : (nI x).toNatClampNeg = x := nI_clamp (by omega)
  try rw [zx] at tc
  try simp only [zx] at tm
  have hv := i64_v (lo := 1) (hi := 1000000) (by omega) d2 (by omega)
  have s1 : AL a e f i b (kChg (rd μ (X + 1)) (nI x) v.toInt64) (sv (μ (M + 1)) (9 + x) (μ (M + 1) (9 + x) + v.toInt64)) := hA.chg hJ hx rfl
  have j1 : J (23 * (μ (M + 1) 6).toInt.toNat + k + 1 + 1) a e f i b p (sv (μ (M + 1)) (9 + x) (μ (M + 1) (9 + x) + v.toInt64)) := hJ.acc (by omega) (by omega) (by omega)
  have s2 := s1.put (k := 7) (v := kChg (rd μ (X + 1)) (nI x) v.toInt64 7 + v.toInt64) (w := sv (μ (M + 1)) (9 + x) (μ (M + 1) (9 + x) + v.toInt64) 7 + v.toInt64) (by omega) (by omega) (by rw [s1.g (lv_8 (by omega))])
  have j2 := j1.full (k := 7) (v := sv (μ (M + 1)) (9 + x) (μ (M + 1) (9 + x) + v.toInt64) 7 + v.toInt64) jB_7
  have e6 : sv (sv (μ (M + 1)) (9 + x) (μ (M + 1) (9 + x) + v.toInt64)) 7 (sv (μ (M + 1)) (9 + x) (μ (M + 1) (9 + x) + v.toInt64) 7 + v.toInt64) 6 = μ (M + 1) 6 := by rw [sv_get, if_neg (by omega), sv_get, if_neg (by omega)]
  refine lf_act hk hX hI hH ⟨a, e, f, i, b, p, by rw [e6]; exact j2, s2, by rw [e6]; exact hd⟩ tc fun μ1 n s h6 => ?_
  rw [s2.g (lv_a hx)]
  exact tm μ1 n s h6
end OPS
