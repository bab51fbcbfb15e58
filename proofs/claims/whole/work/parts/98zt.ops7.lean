/-! ===== A call of the class beside the model's, 7: what is due ===== -/
/-- memory that is the same where it counts -/
def Sf (X M : Nat) (μ ν : qMu) : Prop := (∀ a, (a < X + 415 ∧ (a < X + 44 ∨ X + 85 ≤ a)) ∨ a = M + 4 ∨ a = M + 5 ∨ a = M + 6 ∨ a = M + 7 ∨ M + 15 ≤ a → ν a = μ a) ∧ (∀ i, i ≠ 7 → ν M i = μ M i) ∧ R391 (ν (M + 1)) (μ (M + 1))
section OPY
variable {G : qG} {y : Nat → Option qSh} {μ ν : qMu} {X M k n s N a e f i b p e0 c : Nat} {C D : Row} {cd : Nat → Int64} {kd cm mm : Nat} {ca ma : List Value} {C' D' : Row} {v' : Value} {E : Nat}
theorem Sf.trans {μ2 : qMu} (h : Sf X M μ ν) (h2 : Sf X M ν μ2) : Sf X M μ μ2 := ⟨fun a ha => (h2.1 a ha).trans (h.1 a ha), fun i hi => (h2.2.1 i hi).trans (h.2.1 i hi), fun j hj => (h2.2.2 j hj).trans (h.2.2 j hj)⟩
theorem Sf.refl : Sf X M μ μ := ⟨fun _ _ => rfl, fun _ _ => rfl, fun _ _ => rfl⟩
theorem Sf.w {q : Nat} {d : Nat → Int64} (hXM : X + 465 ≤ M) (h : Sf X M μ ν) (hq : (X + 415 ≤ q ∧ q < M) ∨ (X + 44 ≤ q ∧ q < X + 85) ∨ q = M + 2 ∨ q = M + 3 ∨ (M + 8 ≤ q ∧ q < M + 15)) : Sf X M μ (stc ν q d) :=
  ⟨fun a ha => by rw [stc_ne (by omega)]; exact h.1 a ha, fun i hi => by rw [stc_ne (by omega)]; exact h.2.1 i hi, by rw [stc_ne (by omega)]; exact h.2.2⟩
theorem Sf.wr {q : Nat} {C : Row} (hXM : X + 465 ≤ M) (h : Sf X M μ ν) (hq : (X + 415 ≤ q ∧ q + 41 ≤ M) ∨ q = X + 44) : Sf X M μ (wr ν q C) :=
  ⟨fun a ha => by rw [wr_out (by omega)]; exact h.1 a ha, fun i hi => by rw [wr_out (by omega)]; exact h.2.1 i hi, by rw [wr_out (by omega)]; exact h.2.2⟩
theorem Sf.s7 {t : Int64} (h : Sf X M μ ν) (hXM : X + 465 ≤ M) : Sf X M μ (stc ν M (sv (ν M) 7 t)) :=
  ⟨fun a ha => by rw [stc_ne (by omega)]; exact h.1 a ha, fun i hi => by rw [stc_eq, sv_get, if_neg hi]; exact h.2.1 i hi, by rw [stc_ne (by omega)]; exact h.2.2⟩
theorem Sf.s1 {E : Row} (h : Sf X M μ ν) (hXM : X + 465 ≤ M) (hE : R391 E (μ (M + 1))) : Sf X M μ (stc ν (M + 1) E) :=
  ⟨fun a ha => by rw [stc_ne (by omega)]; exact h.1 a ha, fun i hi => by rw [stc_ne (by omega)]; exact h.2.1 i hi, by rw [stc_eq]; exact hE⟩
theorem Sf.fx (h : Sf X M μ ν) : Fx M μ ν := fun a ha => h.1 a (by omega)
theorem Iv.row {E : Row} (h : Iv G y X M k μ) (hXM : X + 465 ≤ M) (hE : R391 E (μ (M + 1))) : Iv G y X M k (stc μ (M + 1) E) := by
  obtain ⟨h0, ⟨e, c, q1, q2, q3⟩, ⟨L, st, P, bg, t1, t2, t3, t4, t5, t6, t7, t8⟩, h5⟩ := h
  refine ⟨?_, ⟨e, c, ?_, ?_, fun j hj => ?_⟩, ⟨L, st, P, bg, t1, ?_, ?_, ?_, ?_, ?_, ?_, ?_⟩, ?_⟩
  · rw [rd_stc_out (by omega), stc_eq]; exact h0.dx hE
  · unfold Hs at q1 ⊢
    rw [stc_ne (by omega)]; exact q1
  · rw [stc_ne (by omega)]; exact q2
  · have : (e + 7 - j) % 8 < 8 := Nat.mod_lt _ (by decide)
    rw [rd_stc_out (by omega), stc_ne (by omega)]; exact q3 j hj
  · rw [stc_ne (by omega)]; exact t2
  · rw [stc_ne (by omega)]; exact t3
  · rw [stc_ne (by omega), stc_ne (by omega)]; exact t4
  · rw [stc_ne (by omega)]; exact t5
  · rw [stc_ne (by omega)]; exact t6
  · rw [stc_ne (by omega)]; exact t7
  · rw [stc_ne (by omega)]; exact t8
  · exact h5.low fun x hx => stc_ne (by omega)
theorem Iv.sf (h : Iv G y X M k μ) (hXM : X + 465 ≤ M) (hs : Sf X M μ ν) : Iv G y X M k ν := by
  have h1 : Iv G y X M k (stc ν (M + 1) (μ (M + 1))) := h.same hXM (fun a h1 h2 => by rw [stc_ne (by omega)]; exact hs.1 a (Or.inl ⟨h1, h2⟩)) stc_eq (by rw [stc_ne (by omega)]; exact hs.1 _ (by omega)) (by rw [stc_ne (by omega)]; exact hs.1 _ (by omega)) (fun i hi => by rw [stc_ne (by omega)]; exact hs.2.1 i hi)
  have h2 := h1.row (E := ν (M + 1)) hXM (by rw [stc_eq]; exact hs.2.2)
  rwa [stc_stc, stc_self] at h2
/-- an answer that changes what does not count -/
theorem lf_ans {v : Value} (hk : k < 900) (hX : X + 465 ≤ M) (hI : Iv G y X M k μ) (tc : qR PG G (qEntry PG cm (.ref X :: ca) (MK y (wr μ (X + 1) (rd μ (X + 1))) n s)) = some (.inl (some v), MK y ν n s)) (hs : Sf X M μ ν) (h1 : ν (M + 1) = μ (M + 1)) (tm : ∀ μ1 n s, Lx M ν μ1 → ∃ μ2, qR PG G (qEntry PG mm (.ref M :: ma) (MK y (stc μ1 (M + 1) (μ (M + 1))) n s)) = some (.inl (some v), MK y μ2 n s) ∧ Sf X M μ1 μ2 ∧ μ2 M 7 = 0) (hv : vk v = kd := by rfl) : OpL G y X M cd kd cm ca mm ma k μ n s := by
  rw [wr_rd] at tc
  refine Or.inr ⟨v, ν, tc, hs.fx, hv, fun μ1 n s hx => ?_⟩
  obtain ⟨μ2, t1, t2, t3⟩ := tm μ1 n s hx
  rw [hx.self1 h1.symm] at t1
  exact ⟨μ2, (((hI.sf hX hs).lx hX hx).sf hX t2).mono (Nat.le_succ k) (by omega), t2.fx, t1, t3⟩
/-- what is due, in order -/
theorem dl1_mem {g : Nat} : ∀ b, g ∈ dl1 D b ↔ g < b ∧ dyW D g ≠ -1
  | 0 => by simp [dl1]
  | b + 1 => by
    rw [dl1, dJn_mem, dl1_mem b]
    constructor
    · rintro (⟨h1, h2⟩ | ⟨h1, h2⟩)
      · exact ⟨by omega, by rw [h1]; exact h2⟩
      · exact ⟨by omega, h2⟩
    · rintro ⟨h1, h2⟩
      by_cases h : g = b
      · exact Or.inl ⟨h, by rw [← h]; exact h2⟩
      · exact Or.inr ⟨by omega, h2⟩
theorem dl2_mem {g : Nat} : ∀ f, g ∈ dl2 D (dl1 D b) f ↔ ((g < b) ∨ (100 ≤ g ∧ g < 100 + f)) ∧ dyW D g ≠ -1
  | 0 => by
    rw [dl2, dl1_mem]
    constructor
    · exact fun h => ⟨Or.inl h.1, h.2⟩
    · rintro ⟨h | h, h2⟩
      · exact ⟨h, h2⟩
      · omega
  | f + 1 => by
    rw [dl2, dJn_mem, dl2_mem f]
    constructor
    · rintro (⟨h, h2⟩ | ⟨h, h2⟩)
      · exact ⟨Or.inr (by omega), by rw [h]; exact h2⟩
      · exact ⟨by omega, h2⟩
    · rintro ⟨h, h2⟩
      by_cases q : g = 100 + f
      · exact Or.inl ⟨q, by rw [← q]; exact h2⟩
      · exact Or.inr ⟨by omega, h2⟩
theorem Srt.jn {l : List Nat} {q : Nat} (h : Srt (dyW D) l) (hl : ∀ g, g ∈ l → g < q) (hq : q < 1000) : Srt (dyW D) (dJn D q l) := by
  unfold dJn
  split
  · exact h
  · exact h.ins hl hq
theorem dl1_srt : ∀ b, b ≤ 12 → Srt (dyW D) (dl1 D b)
  | 0, _ => by rw [dl1]; exact List.Pairwise.nil
  | b + 1, hb => by
    rw [dl1]
    exact (dl1_srt b (by omega)).jn (fun g hg => ((dl1_mem b).mp hg).1) (by omega)
theorem dl2_srt (hb : b ≤ 12) : ∀ f, f ≤ 6 → Srt (dyW D) (dl2 D (dl1 D b) f)
  | 0, _ => dl1_srt b hb
  | f + 1, hf => by
    rw [dl2]
    refine (dl2_srt hb f (by omega)).jn (fun g hg => ?_) (by omega)
    have := ((dl2_mem f).mp hg).1
    omega
theorem dyW_b {g : Nat} (h : g < 100) : dyW D g = D (125 + 5 * g + 3) := if_pos h
theorem dyW_f {g : Nat} : dyW D (100 + g) = D (73 + 6 * g + 2) := by
  unfold dyW
  rw [if_neg (by omega), Nat.add_sub_cancel_left]
theorem keyB_i (hJ : J N a e f i b p D) (h : AL a e f i b C D) {g : Nat} (hg : g < b) : ((C (125 + 5 * g + 3)).toInt32.toInt64 * 1000 + (nI g).toInt64).toInt = KW (dyW D) g ∧ ((C (125 + 5 * g + 3)).toInt32 = -1) = (dyW D g = -1) := by
  have hc := hJ.2.1
  unfold Jc at hc
  have hN := hJ.1
  have hb := hJ.bn (q := g) (by omega)
  rw [h.g (lv_b hg (by decide)), m1_32 (by omega), dyW_b (by omega)]
  refine ⟨?_, rfl⟩
  have := key_i (x := D (125 + 5 * g + 3)) (c := 0) (q := g) (by omega) (by omega) (by omega)
  rw [show Int64.ofNat 0 = 0 from rfl, Int64.add_zero] at this
  rw [this]
  unfold KW
  rw [dyW_b (by omega)]
  omega
theorem keyF_i (hJ : J N a e f i b p D) (h : AL a e f i b C D) {g : Nat} (hg : g < f) : ((C (73 + 6 * g + 2)).toInt32.toInt64 * 1000 + 100 + (nI g).toInt64).toInt = KW (dyW D) (100 + g) ∧ ((C (73 + 6 * g + 2)).toInt32 = -1) = (dyW D (100 + g) = -1) := by
  have hc := hJ.2.1
  unfold Jc at hc
  have hN := hJ.1
  have hb := hJ.fn (q := g) (by omega)
  rw [h.g (lv_f hg (by decide)), m1_32 (by omega), dyW_f]
  refine ⟨?_, rfl⟩
  have := key_i (x := D (73 + 6 * g + 2)) (c := 100) (q := g) (by omega) (by omega) (by omega)
  rw [show Int64.ofNat 100 = 100 from rfl] at this
  rw [this]
  unfold KW
  rw [dyW_f]
  omega
theorem mn_cases {x z : Int64} : (mn x z = x ∨ mn x z = z) ∧ mn x z ≤ x ∧ mn x z ≤ z := by
  unfold mn
  split
  · rename_i h; exact ⟨Or.inr rfl, Int64.le_of_lt h, Int64.le_refl _⟩
  · rename_i h; exact ⟨Or.inl rfl, Int64.le_refl _, Int64.not_lt.mp h⟩
/-- the next key -/
theorem nxt_a (hJ : J N a e f i b p D) (h : AL a e f i b C D) {v : Int64} : (mn (keyB C v b) (keyF C v f) = NOK ∨ ∃ g, g ∈ dl2 D (dl1 D b) f ∧ v.toInt < KW (dyW D) g ∧ (mn (keyB C v b) (keyF C v f)).toInt = KW (dyW D) g) ∧ ∀ g, g ∈ dl2 D (dl1 D b) f → v.toInt < KW (dyW D) g → (mn (keyB C v b) (keyF C v f)).toInt ≤ KW (dyW D) g := by
  obtain ⟨m1, m2, m3⟩ := mn_cases (x := keyB C v b) (z := keyF C v f)
  constructor
  · rcases m1 with q | q
    · rw [q]
      rcases keyL_a (nx := fun i => C (125 + 5 * i + 3)) (key := fun i => (C (125 + 5 * i + 3)).toInt32.toInt64 * 1000 + (nI i).toInt64) (v := v) b with r | ⟨g, h1, h2, h3, h4⟩
      · exact Or.inl r
      · obtain ⟨k1, k2⟩ := keyB_i hJ h h1
        refine Or.inr ⟨g, (dl2_mem f).mpr ⟨Or.inl h1, fun q => h2 (k2.mpr q)⟩, ?_, ?_⟩
        · rw [← k1]; exact Int64.lt_iff_toInt_lt.mp h3
        · rw [← k1]; exact congrArg Int64.toInt h4
    · rw [q]
      rcases keyL_a (nx := fun i => C (73 + 6 * i + 2)) (key := fun i => (C (73 + 6 * i + 2)).toInt32.toInt64 * 1000 + 100 + (nI i).toInt64) (v := v) f with r | ⟨g, h1, h2, h3, h4⟩
      · exact Or.inl r
      · obtain ⟨k1, k2⟩ := keyF_i hJ h h1
        refine Or.inr ⟨100 + g, (dl2_mem f).mpr ⟨Or.inr (by omega), fun q => h2 (k2.mpr q)⟩, ?_, ?_⟩
        · rw [← k1]; exact Int64.lt_iff_toInt_lt.mp h3
        · rw [← k1]; exact congrArg Int64.toInt h4
  · intro g hg hv
    obtain ⟨hg1, hg2⟩ := (dl2_mem f).mp hg
    rcases hg1 with hg1 | hg1
    · obtain ⟨k1, k2⟩ := keyB_i hJ h hg1
      rw [← k1] at hv ⊢
      have := keyL_b (nx := fun i => C (125 + 5 * i + 3)) (key := fun i => (C (125 + 5 * i + 3)).toInt32.toInt64 * 1000 + (nI i).toInt64) (v := v) b g hg1 (fun q => hg2 (k2.mp q)) (Int64.lt_iff_toInt_lt.mpr hv)
      exact Int64.le_iff_toInt_le.mp (Int64.le_trans m2 this)
    · obtain ⟨r, rfl⟩ : ∃ r, g = 100 + r := ⟨g - 100, by omega⟩
      obtain ⟨k1, k2⟩ := keyF_i hJ h (g := r) (by omega)
      rw [← k1] at hv ⊢
      have := keyL_b (nx := fun i => C (73 + 6 * i + 2)) (key := fun i => (C (73 + 6 * i + 2)).toInt32.toInt64 * 1000 + 100 + (nI i).toInt64) (v := v) f r (by omega) (fun q => hg2 (k2.mp q)) (Int64.lt_iff_toInt_lt.mpr hv)
      exact Int64.le_iff_toInt_le.mp (Int64.le_trans m3 this)
theorem KW_b (hJ : J N a e f i b p D) {g : Nat} (hg : g ∈ dl2 D (dl1 D b) f) : 0 ≤ (dyW D g).toInt ∧ (dyW D g).toInt < 2 ^ 30 ∧ g < 1000 := by
  have hc := hJ.2.1
  unfold Jc at hc
  have hN := hJ.1
  obtain ⟨h1, h2⟩ := (dl2_mem f).mp hg
  have ne : (dyW D g).toInt ≠ -1 := fun q => h2 (Int64.toInt_inj.mp (by rw [q]; decide))
  rcases h1 with h1 | h1
  · have := hJ.bn (q := g) (by omega)
    rw [dyW_b (by omega)] at ne ⊢
    omega
  · obtain ⟨r, rfl⟩ : ∃ r, g = 100 + r := ⟨g - 100, by omega⟩
    have := hJ.fn (q := r) (by omega)
    rw [dyW_f] at ne ⊢
    omega
theorem dnK_eq (hJ : J N a e f i b p D) (h : AL a e f i b C D) : ∀ q, (q = 0 → dnK C f b q = -1) ∧ (∀ j, q = j + 1 → (hj : j < (dl2 D (dl1 D b) f).length) → (dnK C f b q).toInt = KW (dyW D) (dl2 D (dl1 D b) f)[j]) ∧ ((dl2 D (dl1 D b) f).length < q → dnK C f b q = NOK)
  | 0 => ⟨fun _ => rfl, fun j hj => by omega, fun h => by omega⟩
  | q + 1 => by
    have hc := hJ.2.1
    unfold Jc at hc
    obtain ⟨i1, i2, i3⟩ := dnK_eq hJ h q
    have hs := dl2_srt (D := D) (b := b) (by omega) f (by omega)
    have hb := fun g hg => KW_b hJ (g := g) hg
    rw [dnK]
    obtain ⟨n1, n2⟩ := nxt_a hJ h (v := dnK C f b q)
    generalize dl2 D (dl1 D b) f = l at *
    generalize mn (keyB C (dnK C f b q) b) (keyF C (dnK C f b q) f) = r at *
    -- the keys before and behind
    have lo : ∀ j (hj : j < l.length), j < q → KW (dyW D) l[j] ≤ (dnK C f b q).toInt := fun j hj hjq => by
      obtain ⟨t, rfl⟩ : ∃ t, q = t + 1 := ⟨q - 1, by omega⟩
      by_cases ht : t < l.length
      · rw [i2 t rfl ht]
        by_cases hjt : j = t
        · subst hjt; exact Int.le_refl _
        · exact Int.le_of_lt (List.pairwise_iff_getElem.mp hs j t hj ht (by omega))
      · rw [i3 (by omega), show NOK.toInt = 9223372036854775807 by decide]
        have := hb _ (List.getElem_mem hj)
        unfold KW
        omega
    have hi : ∀ j (hj : j < l.length), q ≤ j → (dnK C f b q).toInt < KW (dyW D) l[j] := fun j hj hjq => by
      by_cases hq0 : q = 0
      · rw [i1 hq0, show (-1 : Int64).toInt = -1 by decide]
        have := hb _ (List.getElem_mem hj)
        unfold KW
        omega
      · obtain ⟨t, rfl⟩ : ∃ t, q = t + 1 := ⟨q - 1, by omega⟩
        rw [i2 t rfl (by omega)]
        exact List.pairwise_iff_getElem.mp hs t j (by omega) hj (by omega)
    refine ⟨fun h => absurd h (Nat.succ_ne_zero q), fun j hj hjl => ?_, fun hl => ?_⟩
    · obtain rfl : q = j := by omega
      have r1 := n2 _ (List.getElem_mem hjl) (hi q hjl (Nat.le_refl _))
      rcases n1 with r2 | ⟨g, g1, g2, g3⟩
      · rw [r2, show NOK.toInt = 9223372036854775807 by decide] at r1
        have := hb _ (List.getElem_mem hjl)
        unfold KW at r1
        omega
      · obtain ⟨t, ht, rfl⟩ := List.getElem_of_mem g1
        by_cases htq : t < q
        · have := lo t ht htq
          omega
        · by_cases hte : t = q
          · subst hte; exact g3
          · have := List.pairwise_iff_getElem.mp hs q t hjl ht (by omega)
            omega
    · rcases n1 with r2 | ⟨g, g1, g2, g3⟩
      · exact r2
      · obtain ⟨t, ht, rfl⟩ := List.getElem_of_mem g1
        have := lo t ht (by omega)
        omega
theorem due_eq (hJ : J N a e f i b p D) (h : AL a e f i b C D) {x : Int32} : (if x < 0 ∨ 18 ≤ x then -1 else dnR (dnK C f b (x.toNatClampNeg + 1))) = if 0 ≤ x ∧ x < nI (dl2 D (dl1 D b) f).length then nI ((dl2 D (dl1 D b) f).getD x.toNatClampNeg 0) else -1 := by
  have hc := hJ.2.1
  unfold Jc at hc
  have hl := (dl2_ok (D := D) (b := b) (by omega) f (by omega)).1
  by_cases h0 : 0 ≤ x
  · have hx := i32_of h0
    have hxl : x.toNatClampNeg < 2 ^ 31 := by have := Int32.toInt_lt x; show x.toInt.toNat < _; omega
    generalize x.toNatClampNeg = q at *
    subst hx
    have e1 : (nI q < nI (dl2 D (dl1 D b) f).length) = (q < (dl2 D (dl1 D b) f).length) := mI_lt hxl (by omega)
    have e2 : (18 ≤ nI q) = (18 ≤ q) := mI_le (i := 18) (by omega) hxl
    have e3 : (nI q < 0) = False := mI_nneg hxl
    obtain ⟨-, k2, k3⟩ := dnK_eq hJ h (q + 1)
    simp only [e1, e2, e3, h0, true_and, false_or]
    by_cases hq : q < (dl2 D (dl1 D b) f).length
    · rw [if_neg (by omega), if_pos hq, List.getD_eq_getElem?_getD, List.getElem?_eq_getElem hq, Option.getD_some]
      have k := k2 q rfl hq
      obtain ⟨w1, w2, w3⟩ := KW_b hJ (List.getElem_mem hq)
      generalize (dl2 D (dl1 D b) f)[q] = g at *
      unfold dnR
      unfold KW at k
      rw [if_neg]
      · apply Int32.toInt_inj.mp
        have := k1000 k ⟨w1, by omega⟩ ⟨by omega, by omega⟩
        rw [to32 (by omega) (by omega), this, nI_32 (by omega)]
      · intro q2
        rw [q2, show NOK.toInt = 9223372036854775807 by decide] at k
        omega
    · rw [if_neg hq]
      split
      · rfl
      · rw [k3 (by omega)]
        exact if_pos rfl
  · have h1 : x < 0 := by
      rw [Int32.le_iff_toInt_le] at h0
      rw [Int32.lt_iff_toInt_lt]
      omega
    rw [if_pos (Or.inl h1), if_neg (fun h => h0 h.1)]
/-- how often a thing falls due -/
theorem tim_eq {d nx ev : Int64} {x : Int32} (hd : 0 ≤ d.toInt ∧ d.toInt ≤ 22000) (hn : -1 ≤ nx.toInt ∧ nx.toInt < 2 ^ 30) (he : 0 ≤ ev.toInt ∧ ev.toInt ≤ 400) (hx : 0 ≤ x.toInt ∧ x.toInt ≤ 2000) (h6 : D 6 = d) : kTim (d.toInt32 + x) nx.toInt32 ev.toInt32 = pOf D nx ev x := by
  unfold kTim pOf
  have e1 : (d.toInt32 + x).toInt = d.toInt + x.toInt := by
    rw [Int32.toInt_add, to32 (by omega) (by omega)]
    exact Int.bmod_eq_of_le (by omega) (by omega)
  have e2 : (D 6 + x.toInt64).toInt = d.toInt + x.toInt := by
    rw [h6, ia (by rw [Int32.toInt_toInt64]; omega) (by rw [Int32.toInt_toInt64]; omega), Int32.toInt_toInt64]
  have e3 : (D 6 + x.toInt64 - nx).toInt = d.toInt + x.toInt - nx.toInt := by
    rw [is_ (by omega) (by omega), e2]
  have e4 : (d.toInt32 + x - nx.toInt32).toInt = d.toInt + x.toInt - nx.toInt := by
    rw [Int32.toInt_sub, e1, to32 (by omega) (by omega)]
    exact Int.bmod_eq_of_le (by omega) (by omega)
  have c1 : (d.toInt32 + x < nx.toInt32) = (D 6 + x.toInt64 - nx < 0) := by
    apply propext
    rw [Int32.lt_iff_toInt_lt, Int64.lt_iff_toInt_lt, e1, e3, to32 (by omega) (by omega), show (0 : Int64).toInt = 0 by decide]
    omega
  have c2 : (ev.toInt32 ≤ 0) = (ev = 0) := by
    apply propext
    rw [Int32.le_iff_toInt_le, to32 (by omega) (by omega), ← Int64.toInt_inj, show (0 : Int32).toInt = 0 by decide, show (0 : Int64).toInt = 0 by decide]
    omega
  simp only [m1_32 hn, c1, c2]
  split
  · rfl
  rename_i h1
  split
  · rfl
  rename_i h2
  have h3 : 0 ≤ d.toInt + x.toInt - nx.toInt := by
    have := mt (fun q => Or.inr (a := nx = -1) (Int64.lt_iff_toInt_lt.mpr q)) h1
    rw [e3, show (0 : Int64).toInt = 0 by decide] at this
    omega
  have h4 : ev.toInt ≠ 0 := fun q => h2 (Int64.toInt_inj.mp (by rw [q]; rfl))
  have q1 : (d.toInt + x.toInt - nx.toInt) / ev.toInt ≤ d.toInt + x.toInt - nx.toInt := Int.ediv_le_self _ h3
  have q2 : 0 ≤ (d.toInt + x.toInt - nx.toInt) / ev.toInt := Int.ediv_nonneg h3 (by omega)
  apply i64_ext
  have d1 : ((d.toInt32 + x - nx.toInt32) / ev.toInt32).toInt = (d.toInt + x.toInt - nx.toInt) / ev.toInt := by
    rw [Int32.toInt_div, e4, to32 (by omega) (by omega), Int.tdiv_eq_ediv_of_nonneg h3]
    exact Int.bmod_eq_of_le (by omega) (by omega)
  have d2 : ((D 6 + x.toInt64 - nx) / ev).toInt = (d.toInt + x.toInt - nx.toInt) / ev.toInt := by
    rw [Int64.toInt_div, e3, Int.tdiv_eq_ediv_of_nonneg h3]
    exact Int.bmod_eq_of_le (by omega) (by omega)
  rw [Int32.toInt_toInt64, Int32.toInt_add, d1, ia (by rw [d2, show (1 : Int64).toInt = 1 by decide]; omega) (by rw [d2, show (1 : Int64).toInt = 1 by decide]; omega), d2, show (1 : Int64).toInt = 1 by decide, show (1 : Int32).toInt = 1 by decide]
  exact Int.bmod_eq_of_le (by omega) (by omega)
theorem bil_eq (hJ : J N a e f i b p D) (h : AL a e f i b C D) {x : Int32} (hx : 0 ≤ x.toInt ∧ x.toInt ≤ 2000) {q : Nat} (hq : q < b) : kSmB C ((D 6).toInt32 + x) q = D (125 + 5 * q + 2) * pOf D (D (125 + 5 * q + 3)) (D (125 + 5 * q + 4)) x := by
  have hc := hJ.2.1
  unfold Jc at hc
  have hN := hJ.1
  have hm := hJ.bm (q := q) (by omega)
  have hn := hJ.bn (q := q) (by omega)
  have hv := hJ.bv (q := q) (by omega)
  unfold kSmB
  rw [h.g (lv_b hq (r := 2) (by decide)), h.g (lv_b hq (r := 3) (by decide)), h.g (lv_b hq (r := 4) (by decide)), i64_32r (by omega) (by omega), tim_eq hJ.d6 (by omega) hv hx rfl]
theorem fun_eq (hJ : J N a e f i b p D) (h : AL a e f i b C D) {x : Int32} (hx : 0 ≤ x.toInt ∧ x.toInt ≤ 2000) {q : Nat} (hq : q < f) : kSmF C ((D 6).toInt32 + x) q = D (73 + 6 * q + 1) * pOf D (D (73 + 6 * q + 2)) (D (73 + 6 * q + 3)) x := by
  have hc := hJ.2.1
  unfold Jc at hc
  have hN := hJ.1
  have hm := hJ.ft (q := q) (by omega)
  have hn := hJ.fn (q := q) (by omega)
  have hv := hJ.fg (q := q) (by omega)
  unfold kSmF
  rw [h.g (lv_f hq (r := 1) (by decide)), h.g (lv_f hq (r := 2) (by decide)), h.g (lv_f hq (r := 3) (by decide)), i64_32r (by omega) (by omega), tim_eq hJ.d6 (by omega) hv hx rfl]
theorem bsm_eq (hJ : J N a e f i b p D) (h : AL a e f i b C D) {x : Int32} (hx : 0 ≤ x.toInt ∧ x.toInt ≤ 2000) : ∀ q, q ≤ b → smB 0 (kSmB C ((D 6).toInt32 + x)) q = pBsm D (-1) x q
  | 0, _ => rfl
  | q + 1, hq => by rw [smB, pBsm, bsm_eq hJ h hx q (by omega), bil_eq hJ h hx (by omega), if_pos (Or.inl rfl)]
theorem fsm_eq (hJ : J N a e f i b p D) (h : AL a e f i b C D) {x : Int32} (hx : 0 ≤ x.toInt ∧ x.toInt ≤ 2000) {v u : Int64} (hv : v = u) : ∀ q, q ≤ f → smB v (kSmF C ((D 6).toInt32 + x)) q = pFsm D u x q
  | 0, _ => hv
  | q + 1, hq => by rw [smB, pFsm, fsm_eq hJ h hx hv q (by omega), fun_eq hJ h hx (by omega)]
theorem enl_eq (hJ : J N a e f i b p D) (h : AL a e f i b C D) {x : Int32} (hx : 0 ≤ x.toInt ∧ x.toInt ≤ 2000) {z : Nat} (hz : z < e) : ∀ q, q ≤ b → kEnL C (nI z) ((D 6).toInt32 + x) q = pBsm D (nI z) x q
  | 0, _ => rfl
  | q + 1, hq => by
    have hc := hJ.2.1
    unfold Jc at hc
    obtain ⟨g, hg, hg2⟩ := hJ.be (q := q) (by omega)
    rw [kEnL, pBsm, enl_eq hJ h hx hz q (by omega), bil_eq hJ h hx (by omega), h.g (lv_b0 (q := q) (by omega)), hg2, i64_32]
    by_cases q2 : nI g = nI z
    · rw [if_pos q2, if_pos (Or.inr (by rw [q2]))]
    · rw [if_neg q2, if_neg, Int64.add_zero]
      rintro (q3 | q3)
      · exact nI_ne (by omega) q3
      · exact q2 (by rw [← i64_32 (nI g), q3, i64_32])
theorem x32_b {x : Int32} {lo hi : Int} {l u : Int32} (hl : l.toInt = lo) (hu : u.toInt = hi) (h : l ≤ x ∧ x ≤ u) : lo ≤ x.toInt ∧ x.toInt ≤ hi := by
  have h1 := Int32.le_iff_toInt_le.mp h.1
  have h2 := Int32.le_iff_toInt_le.mp h.2
  omega
theorem op_71 (hS : SH y X M) : OpI G y X M cd0 1 71 [] 271 [] := by
  intro k μ n s hk hI
  obtain ⟨hE, hF, hDL, hM, hMA, hX⟩ := hS
  have hI' := hI
  obtain ⟨⟨a, e, f, i, b, p, hJ, hA, hd⟩, ⟨e0, c, hH⟩, -⟩ := hI'
  have hO := hA.ct hJ
  have hc := hJ.2.1
  unfold Jc at hc
  have hN := hJ.1
  have d6 := hJ.d6
  have tc := t71 (G := G) (μ := μ) (n := n) (s := s) hE hO.1 
  have tm := fun (μ1 : qMu) (n s : Nat) (h6 : (μ1 M 6).toInt32 = nI c) => t271 (G := G) (μ := μ1) (n := n) (s := s) hM hJ 
  have g0 : rd μ (X + 1) 0 = μ (M + 1) 0 := hA.g (lv_8 (by omega))
  have g1 : rd μ (X + 1) 1 = μ (M + 1) 1 := hA.g (lv_8 (by omega))
  have g2 : rd μ (X + 1) 2 = μ (M + 1) 2 := hA.g (lv_8 (by omega))
  have g3 : rd μ (X + 1) 3 = μ (M + 1) 3 := hA.g (lv_8 (by omega))
  have g4 : rd μ (X + 1) 4 = μ (M + 1) 4 := hA.g (lv_8 (by omega))
  have g5 : rd μ (X + 1) 5 = μ (M + 1) 5 := hA.g (lv_8 (by omega))
  have g6 := hA.d6 hJ
  have g7 : rd μ (X + 1) 7 = μ (M + 1) 7 := hA.g (lv_8 (by omega))
  try rw [g0] at tc
  try rw [g1] at tc
  try rw [g2] at tc
  try rw [g3] at tc
  try rw [g4] at tc
  try rw [g5] at tc
  rw [smB_congr e (g := fun i => mx 0 (-(μ (M + 1) (13 + 6 * i)))) (fun j hj => by rw [hA.g (lv_e0 hj)]), smB_congr f (g := fun i => mx 0 (-(μ (M + 1) (73 + 6 * i)))) (fun j hj => by rw [hA.g (lv_f0 hj)])] at tc
  exact lf_same hk hX hI tc fun μ1 n s hx => tm μ1 n s (lx6 hx hH)
theorem op_72 (hS : SH y X M) {x : Int32} : OpI G y X M cd0 0 72 [.int x] 272 [.int x] := by
  intro k μ n s hk hI
  obtain ⟨hE, hF, hDL, hM, hMA, hX⟩ := hS
  have hI' := hI
  obtain ⟨⟨a, e, f, i, b, p, hJ, hA, hd⟩, ⟨e0, c, hH⟩, -⟩ := hI'
  have hO := hA.ct hJ
  have hc := hJ.2.1
  unfold Jc at hc
  have hN := hJ.1
  have d6 := hJ.d6
  have tc := t72 (G := G) (μ := μ) (n := n) (s := s) hE hO.1 (x := x)
  have g0 : rd μ (X + 1) 0 = μ (M + 1) 0 := hA.g (lv_8 (by omega))
  have g1 : rd μ (X + 1) 1 = μ (M + 1) 1 := hA.g (lv_8 (by omega))
  have g2 : rd μ (X + 1) 2 = μ (M + 1) 2 := hA.g (lv_8 (by omega))
  have g3 : rd μ (X + 1) 3 = μ (M + 1) 3 := hA.g (lv_8 (by omega))
  have g4 : rd μ (X + 1) 4 = μ (M + 1) 4 := hA.g (lv_8 (by omega))
  have g5 : rd μ (X + 1) 5 = μ (M + 1) 5 := hA.g (lv_8 (by omega))
  have g6 := hA.d6 hJ
  have g7 : rd μ (X + 1) 7 = μ (M + 1) 7 := hA.g (lv_8 (by omega))
  try rw [g0] at tc
  try rw [g1] at tc
  try rw [g2] at tc
  try rw [g3] at tc
  try rw [g4] at tc
  try rw [g5] at tc
  rw [due_eq hJ hA] at tc
  refine lf_ans hk hX hI tc (by rw [wr_rd]; exact Sf.refl) (by rw [wr_rd]) fun μ1 n s hx => ?_
  obtain ⟨F, tm⟩ := t272 (G := G) (μ := μ1) (D := μ (M + 1)) (n := n) (s := s) (x := x) hM hMA hJ
  refine ⟨_, tm, ?_, ?_⟩
  · rw [wr_rd] at hx
    exact (((Sf.refl (X := X) (M := M) (μ := μ1)).s7 (t := 0) hX).w (q := M + 14) (d := F) hX (by omega)).s1 (E := μ (M + 1)) hX (by rw [hx (M + 1) (by omega) (by omega)]; exact fun _ _ => rfl)
  · rw [stc_ne (by omega), stc_ne (by omega), stc_eq, sv_get, if_pos rfl]
theorem op_140 (hS : SH y X M) {x : Int32} : OpI G y X M cdA 1 140 [.int x] 263 [.int x] := by
  intro k μ n s hk hI
  obtain ⟨hE, hF, hDL, hM, hMA, hX⟩ := hS
  have hI' := hI
  obtain ⟨⟨a, e, f, i, b, p, hJ, hA, hd⟩, ⟨e0, c, hH⟩, -⟩ := hI'
  have hO := hA.ct hJ
  have hc := hJ.2.1
  unfold Jc at hc
  have hN := hJ.1
  have d6 := hJ.d6
  have tc := t140 (G := G) (μ := μ) (n := n) (s := s) hE hO.1 (x := x)
  have tm := fun (μ1 : qMu) (n s : Nat) (h6 : (μ1 M 6).toInt32 = nI c) => t263 (G := G) (μ := μ1) (n := n) (s := s) hM hJ (x := x)
  have g0 : rd μ (X + 1) 0 = μ (M + 1) 0 := hA.g (lv_8 (by omega))
  have g1 : rd μ (X + 1) 1 = μ (M + 1) 1 := hA.g (lv_8 (by omega))
  have g2 : rd μ (X + 1) 2 = μ (M + 1) 2 := hA.g (lv_8 (by omega))
  have g3 : rd μ (X + 1) 3 = μ (M + 1) 3 := hA.g (lv_8 (by omega))
  have g4 : rd μ (X + 1) 4 = μ (M + 1) 4 := hA.g (lv_8 (by omega))
  have g5 : rd μ (X + 1) 5 = μ (M + 1) 5 := hA.g (lv_8 (by omega))
  have g6 := hA.d6 hJ
  have g7 : rd μ (X + 1) 7 = μ (M + 1) 7 := hA.g (lv_8 (by omega))
  try rw [g0] at tc
  try rw [g1] at tc
  try rw [g2] at tc
  try rw [g3] at tc
  try rw [g4] at tc
  try rw [g5] at tc
  by_cases d1 : 0 ≤ x ∧ x ≤ 2000
  case neg => exact lf_exc hk hX hI (tc.trans (if_pos d1)) (fun μ1 n s hx => (tm μ1 n s (lx6 hx hH)).trans (if_pos d1)) (by decide)
  replace tc := tc.trans (if_neg (not_not_intro d1))
  replace tm := fun μ1 n s h6 => (tm μ1 n s h6).trans (if_neg (not_not_intro d1))
  have hx := x32_b (lo := 0) (hi := 2000) (by decide) (by decide) d1
  rw [g6.1, bsm_eq hJ hA hx b (Nat.le_refl _), fsm_eq hJ hA hx rfl f (Nat.le_refl _)] at tc
  exact lf_same hk hX hI tc fun μ1 n s hx => tm μ1 n s (lx6 hx hH)
theorem op_145 (hS : SH y X M) {x : Int32} : OpI G y X M cdB 0 145 [.int x] 267 [.int x] := by
  intro k μ n s hk hI
  obtain ⟨hE, hF, hDL, hM, hMA, hX⟩ := hS
  have hI' := hI
  obtain ⟨⟨a, e, f, i, b, p, hJ, hA, hd⟩, ⟨e0, c, hH⟩, -⟩ := hI'
  have hO := hA.ct hJ
  have hc := hJ.2.1
  unfold Jc at hc
  have hN := hJ.1
  have d6 := hJ.d6
  have tc := t145 (G := G) (μ := μ) (n := n) (s := s) hE hO.1 (x := x)
  have tm := fun (μ1 : qMu) (n s : Nat) (h6 : (μ1 M 6).toInt32 = nI c) => t267 (G := G) (μ := μ1) (n := n) (s := s) hM hJ (x := x)
  have g0 : rd μ (X + 1) 0 = μ (M + 1) 0 := hA.g (lv_8 (by omega))
  have g1 : rd μ (X + 1) 1 = μ (M + 1) 1 := hA.g (lv_8 (by omega))
  have g2 : rd μ (X + 1) 2 = μ (M + 1) 2 := hA.g (lv_8 (by omega))
  have g3 : rd μ (X + 1) 3 = μ (M + 1) 3 := hA.g (lv_8 (by omega))
  have g4 : rd μ (X + 1) 4 = μ (M + 1) 4 := hA.g (lv_8 (by omega))
  have g5 : rd μ (X + 1) 5 = μ (M + 1) 5 := hA.g (lv_8 (by omega))
  have g6 := hA.d6 hJ
  have g7 : rd μ (X + 1) 7 = μ (M + 1) 7 := hA.g (lv_8 (by omega))
  try rw [g0] at tc
  try rw [g1] at tc
  try rw [g2] at tc
  try rw [g3] at tc
  try rw [g4] at tc
  try rw [g5] at tc
  by_cases d1 : inR x (μ (M + 1) 1)
  case neg => exact lf_exc hk hX hI (tc.trans (if_pos d1)) (fun μ1 n s hx => (tm μ1 n s (lx6 hx hH)).trans (if_pos d1)) (by decide)
  replace tc := tc.trans (if_neg (not_not_intro d1))
  replace tm := fun μ1 n s h6 => (tm μ1 n s h6).trans (if_neg (not_not_intro d1))
  obtain ⟨x, hx, rfl⟩ := inR_n (c := e) (by omega) hJ.c1 d1
  rw [g6.1, enl_eq hJ hA (x := 360) (by decide) hx b (Nat.le_refl _)] at tc
  unfold dup at tc
  rw [show mx 1 12 = 12 by decide] at tc
  exact lf_same hk hX hI tc fun μ1 n s hx => tm μ1 n s (lx6 hx hH)
end OPY
