/-! ===== What holds at each turn of the law's loop ===== -/
def HiR (μ : qMu) (X M k e c : Nat) : Prop := Hs μ (X + 85) e c ∧ (μ M 6).toInt32 = nI c ∧ ∀ j, j < c → PR k (rd μ (X + 85 + 2 + 41 * ((e + 7 - j) % 8))) (fun i => μ (M + 4) (391 * (c - 1 - j) + i))
def TxR (μ : qMu) (X M : Nat) : Prop := ∃ L st P bg, L ≤ 900 ∧ μ (X + 42) = rS (μ (X + 42)) L st P ∧ μ M 9 = (nI L).toInt64 ∧ HB (μ (M + 7)) (μ (X + 43)) L ∧ μ M 11 = (nI bg).toInt64 ∧ μ M 13 = P.2.2.1.toInt64 ∧ (μ M 15).toInt32 = P.2.1 ∧ (μ M 16).toInt32 = P.2.2.2
def Iv (G : qG) (y : Nat → Option qSh) (X M k : Nat) (μ : qMu) : Prop := PR k (rd μ (X + 1)) (μ (M + 1)) ∧ (∃ e c, HiR μ X M k e c) ∧ TxR μ X M ∧ TX G y μ X
def SH (y : Nat → Option qSh) (X M : Nat) : Prop := EL y X ∧ FL y (X + 415) ∧ DL y (X + 459) ∧ ML y M ∧ MA y M ∧ X + 465 ≤ M
/-- cells that only the snapshots and the law itself write -/
def Fx (M : Nat) (μ μ' : qMu) : Prop := ∀ a, (M + 15 ≤ a ∨ a = M + 5 ∨ a = M + 6) → μ' a = μ a
section INV
variable {G : qG} {y : Nat → Option qSh} {μ ν : qMu} {X M k e c : Nat} {C' D' : Row}
theorem Fx.rfl' : Fx M μ μ := fun _ _ => rfl
theorem Fx.trans {μ2 : qMu} (h : Fx M μ ν) (h2 : Fx M ν μ2) : Fx M μ μ2 := fun a ha => (h2 a ha).trans (h a ha)
theorem HiR.mono {k' : Nat} (h : HiR μ X M k e c) (hk : k ≤ k') (h2 : k' ≤ 1000) : HiR μ X M k' e c := ⟨h.1, h.2.1, fun j hj => (h.2.2 j hj).mono hk h2⟩
theorem Iv.mono {k' : Nat} (h : Iv G y X M k μ) (hk : k ≤ k') (h2 : k' ≤ 1000) : Iv G y X M k' μ := by
  obtain ⟨h0, ⟨e, c, h1⟩, h3⟩ := h
  exact ⟨h0.mono hk h2, ⟨e, c, h1.mono hk h2⟩, h3⟩
/-- memory that is the same where it counts -/
theorem Iv.same (h : Iv G y X M k μ) (hXM : X + 465 ≤ M) (hl : ∀ a, a < X + 415 → (a < X + 44 ∨ X + 85 ≤ a) → ν a = μ a) (h1 : ν (M + 1) = μ (M + 1)) (h4 : ν (M + 4) = μ (M + 4)) (h7 : ν (M + 7) = μ (M + 7)) (hm : ∀ i, i ≠ 7 → ν M i = μ M i) : Iv G y X M k ν := by
  obtain ⟨h0, ⟨e, c, q1, q2, q3⟩, ⟨L, st, P, bg, t1, t2, t3, t4, t5, t6, t7, t8⟩, h5⟩ := h
  have er : ∀ b, b + 41 ≤ X + 415 → (b + 41 ≤ X + 44 ∨ X + 85 ≤ b) → rd ν b = rd μ b := fun b hb hb2 => by
    funext i
    have := bkInv_lt i
    unfold rd
    rw [hl _ (by omega) (by omega)]
  have q1' := q1.2.1
  refine ⟨?_, ⟨e, c, ?_, ?_, fun j hj => ?_⟩, ⟨L, st, P, bg, t1, ?_, ?_, ?_, ?_, ?_, ?_, ?_⟩, ?_⟩
  · rw [er _ (by omega) (by omega), h1]; exact h0
  · unfold Hs at q1 ⊢
    rw [hl (X + 85) (by omega) (by omega)]; exact q1
  · rw [hm 6 (by decide)]; exact q2
  · have : (e + 7 - j) % 8 < 8 := Nat.mod_lt _ (by decide)
    rw [er _ (by omega) (by omega), h4]; exact q3 j hj
  · rw [hl (X + 42) (by omega) (by omega)]; exact t2
  · rw [hm 9 (by decide)]; exact t3
  · rw [h7, hl (X + 43) (by omega) (by omega)]; exact t4
  · rw [hm 11 (by decide)]; exact t5
  · rw [hm 13 (by decide)]; exact t6
  · rw [hm 15 (by decide)]; exact t7
  · rw [hm 16 (by decide)]; exact t8
  · exact h5.low fun a ha => hl a (by omega) (by omega)
theorem Iv.mt (h : Iv G y X M k μ) (hXM : X + 465 ≤ M) {t : Int64} : Iv G y X M k (MT μ M (μ (M + 1)) t) := by
  refine h.same hXM (fun a ha _ => ?_) ?_ ?_ ?_ fun i hi => ?_
  · unfold MT; rw [stc_ne (by omega), stc_ne (by omega)]
  · unfold MT; rw [stc_ne (by omega), stc_eq]
  · unfold MT; rw [stc_ne (by omega), stc_ne (by omega)]
  · unfold MT; rw [stc_ne (by omega), stc_ne (by omega)]
  · unfold MT; rw [stc_eq, sv_get, if_neg hi]
theorem fx_mt {D : Row} {t : Int64} : Fx M μ (MT μ M D t) := fun a ha => by unfold MT; rw [stc_ne (by omega), stc_ne (by omega)]
theorem mt_7 {D : Row} {t : Int64} : MT μ M D t M 7 = t := by unfold MT; rw [stc_eq, sv_get, if_pos rfl]
/-- after an action -/
noncomputable def aM (μ : qMu) (X M e c : Nat) (C' D' : Row) : qMu := stc (MKp (wr (hRem μ (X + 85) e c (rd μ (X + 1))) (X + 1) C') M (μ (M + 1)) c) (M + 1) D'
theorem aM_lo (hXM : X + 465 ≤ M) {a : Nat} (ha : a < M) : aM μ X M e c C' D' a = wr (hRem μ (X + 85) e c (rd μ (X + 1))) (X + 1) C' a := by
  unfold aM MKp mKeep
  rw [stc_ne (by omega), stc_ne (by omega), stc_ne (by omega), stc_ne (by omega)]
theorem aM_hi (hXM : X + 465 ≤ M) {a : Nat} (ha : M < a) (h1 : a ≠ M + 1) (h4 : a ≠ M + 4) (he : e < 8) : aM μ X M e c C' D' a = μ a := by
  unfold aM MKp mKeep
  rw [stc_ne (by omega), stc_ne (by omega), stc_ne (by omega), stc_ne (by omega), wr_out (by omega)]
  unfold hRem
  rw [stc_ne (by omega), wr_out (by omega)]
theorem aM_fx (hXM : X + 465 ≤ M) (he : e < 8) : Fx M μ (aM μ X M e c C' D') := fun a ha => aM_hi hXM (by omega) (by omega) (by omega) he
theorem aM_M (hXM : X + 465 ≤ M) (he : e < 8) {i : Nat} : aM μ X M e c C' D' M i = if i = 6 then (nI (min c 7 + 1)).toInt64 else if i = 7 then 0 else μ M i := by
  unfold aM MKp mKeep
  rw [stc_ne (by omega), stc_eq, stc_eq]
  have e0 : wr (hRem μ (X + 85) e c (rd μ (X + 1))) (X + 1) C' M = μ M := by
    rw [wr_out (by omega)]
    unfold hRem
    rw [stc_ne (by omega), wr_out (by omega)]
  rw [sv_get, sv_get, e0]
theorem aM_4 (hXM : X + 465 ≤ M) (he : e < 8) : aM μ X M e c C' D' (M + 4) = mCp (μ (M + 1)) 0 (if c = 8 then mSh (μ (M + 4)) 2737 else μ (M + 4)) (min c 7) 391 := by
  unfold aM MKp mKeep
  rw [stc_ne (by omega), stc_ne (by omega), stc_eq]
  have e0 : ∀ d, stc (wr (hRem μ (X + 85) e c (rd μ (X + 1))) (X + 1) C') M d (M + 4) = μ (M + 4) := fun d => by
    rw [stc_ne (by omega), wr_out (by omega)]
    unfold hRem
    rw [stc_ne (by omega), wr_out (by omega)]
  rw [e0]
theorem Iv.act (h : Iv G y X M k μ) (hXM : X + 465 ≤ M) (hH : HiR μ X M k e c) (hk : k + 1 ≤ 1000) (hP : PR (k + 1) C' D') : Iv G y X M (k + 1) (aM μ X M e c C' D') := by
  obtain ⟨h0, -, ⟨L, st, P, bg, t1, t2, t3, t4, t5, t6, t7, t8⟩, h5⟩ := h
  obtain ⟨⟨s1, s2, s3, s4⟩, q2, q3⟩ := hH
  have lo : ∀ a, a < M → aM μ X M e c C' D' a = wr (hRem μ (X + 85) e c (rd μ (X + 1))) (X + 1) C' a := fun a ha => aM_lo hXM ha
  have erd : ∀ b, b + 41 ≤ M → rd (aM μ X M e c C' D') b = rd (wr (hRem μ (X + 85) e c (rd μ (X + 1))) (X + 1) C') b := fun b hb => by
    funext i
    have := bkInv_lt i
    show aM μ X M e c C' D' (b + (bkInv i).1) (bkInv i).2 = _
    rw [lo _ (by omega)]
    rfl
  have low : ∀ a, a < X + 85 → (a < X + 1 ∨ X + 42 ≤ a) → aM μ X M e c C' D' a = μ a := fun a h1 h2 => by
    rw [lo _ (by omega), wr_out (by omega)]
    unfold hRem
    rw [stc_ne (by omega), wr_out (by omega)]
  have e85 : aM μ X M e c C' D' (X + 85) = sv (sv (μ (X + 85)) 2 (nI ((e + 1) % 8)).toInt64) 1 (nI (min (c + 1) 8)).toInt64 := by
    rw [lo _ (by omega), wr_out (by omega)]
    unfold hRem
    rw [stc_eq]
  refine ⟨?_, ⟨(e + 1) % 8, min (c + 1) 8, ?_, ?_, fun j hj => ?_⟩, ⟨L, st, P, bg, t1, ?_, ?_, ?_, ?_, ?_, ?_, ?_⟩, ?_⟩
  · rw [erd _ (by omega)]
    have e1 : aM μ X M e c C' D' (M + 1) = D' := by unfold aM; rw [stc_eq]
    rw [e1]
    exact hP.vx fun i hi => rd_wr hi
  · unfold Hs
    rw [e85]
    simp only [sv_get]
    rw [if_neg (by decide), if_pos trivial, if_pos trivial, i64_32, i64_32]
    exact ⟨rfl, Nat.mod_lt _ (by decide), rfl, by omega⟩
  · rw [aM_M hXM s2, if_pos rfl, i64_32]
    congr 1
    omega
  · have hq : ((e + 1) % 8 + 7 - j) % 8 < 8 := Nat.mod_lt _ (by decide)
    rw [erd _ (by omega), rd_wr_out (by omega), aM_4 hXM s2]
    unfold hRem
    rw [rd_stc_out (by omega)]
    by_cases hj0 : j = 0
    · subst hj0
      rw [show ((e + 1) % 8 + 7 - 0) % 8 = e by omega]
      have e2 : (fun i => mCp (μ (M + 1)) 0 (if c = 8 then mSh (μ (M + 4)) 2737 else μ (M + 4)) (min c 7) 391 (391 * (min (c + 1) 8 - 1 - 0) + i)) = fun i => if i < 391 then μ (M + 1) i else (if c = 8 then mSh (μ (M + 4)) 2737 else μ (M + 4)) (391 * (min (c + 1) 8 - 1 - 0) + i) := by
        funext i
        rw [mCp_get]
        have e3 : min (c + 1) 8 - 1 - 0 = min c 7 := by omega
        rw [e3]
        by_cases hi : i < 391
        · rw [if_pos (by omega), if_pos hi]
          congr 1
          omega
        · rw [if_neg (by omega), if_neg hi]
      rw [e2]
      have hc := (h0.mono (show k ≤ k + 1 by omega) hk).cpy (Z := rd μ (X + 85 + 2 + 41 * e))
      refine (hc.vx fun i hi => rd_wr hi).dx fun i hi => ?_
      rw [if_pos hi]
    · have e3 : ((e + 1) % 8 + 7 - j) % 8 = (e + 7 - (j - 1)) % 8 := by omega
      have hne : (e + 7 - (j - 1)) % 8 ≠ e := by omega
      rw [e3, rd_wr_out (by omega)]
      refine ((q3 (j - 1) (by omega)).mono (show k ≤ k + 1 by omega) hk).dx fun i hi => ?_
      dsimp only
      rw [mCp_get, if_neg (by omega)]
      by_cases hc8 : c = 8
      · rw [if_pos hc8, mSh_get, if_pos (by omega)]
        congr 1
        omega
      · rw [if_neg hc8]
        congr 1
        omega
  · rw [low (X + 42) (by omega) (by omega)]; exact t2
  · rw [aM_M hXM s2, if_neg (by decide), if_neg (by decide)]; exact t3
  · rw [aM_hi hXM (by omega) (by omega) (by omega) s2, low (X + 43) (by omega) (by omega)]; exact t4
  · rw [aM_M hXM s2, if_neg (by decide), if_neg (by decide)]; exact t5
  · rw [aM_M hXM s2, if_neg (by decide), if_neg (by decide)]; exact t6
  · rw [aM_M hXM s2, if_neg (by decide), if_neg (by decide)]; exact t7
  · rw [aM_M hXM s2, if_neg (by decide), if_neg (by decide)]; exact t8
  · exact h5.low fun a ha => low a (by omega) (by omega)
end INV
