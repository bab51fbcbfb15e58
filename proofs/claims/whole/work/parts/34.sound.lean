/-! ===== The small machine is sound, 6: every step ===== -/
section SND7
variable {p : Program} {l : Launch} {e : Env} {R : Room} {s : State} {mid : MethodId} {args : Array Value} {below : List Frame} {meth : Method} {c : Code} {H : Heap} {locs : List Loc} {cells slots : Nat} {Q : State → Prop}
variable {pc len : Nat} {ls : Array Slot} {z : qE} {G : qG} {h : qHp} {st rest : List Value} {m : Nat} {r : qRes} {i : Instr} {lk : List Nat} {cv : Value}
theorem sd_const (C : qCx z G p l R s mid args meth c m) (hq : qEntOk m (pc, len, i, lk, cv) = true) (hi : qConst i = true) (kk : W p l e R s mid args below meth c H locs cells slots Q (F0 mid (pc + len) ls (qCv G cv :: st))) : W p l e R s mid args below meth c H locs cells slots Q (F0 mid pc ls st) := by
  obtain ⟨hexec, hb, hml, hown, hts, hlocks, htab, hnm, hRf, hRl, hst, hfx⟩ := C
  unfold qConst at hi
  split at hi
  · obtain ⟨hd, hl⟩ := qEnt_dec hq (by simp) (by simp)
    dsimp only [qEntOk] at hq
    rw [Bool.and_eq_true, decide_eq_true_eq] at hq
    replace hq := hq.2
    subst hq; subst hl
    exact lv_iconst hexec hb hd rfl kk
  · obtain ⟨hd, hl⟩ := qEnt_dec hq (by simp) (by simp)
    dsimp only [qEntOk] at hq
    rw [Bool.and_eq_true, decide_eq_true_eq] at hq
    replace hq := hq.2
    subst hq; subst hl
    exact lv_bipush hexec hb hd rfl kk
  · obtain ⟨hd, hl⟩ := qEnt_dec hq (by simp) (by simp)
    dsimp only [qEntOk] at hq
    rw [Bool.and_eq_true, decide_eq_true_eq] at hq
    replace hq := hq.2
    subst hq; subst hl
    exact lv_sipush hexec hb hd rfl kk
  · obtain ⟨hd, hl⟩ := qEnt_dec hq (by simp) (by simp)
    dsimp only [qEntOk] at hq
    rw [Bool.and_eq_true, decide_eq_true_eq] at hq
    replace hq := hq.2
    subst hq; subst hl
    exact lv_lconst hexec hb hd rfl kk
  · obtain ⟨hd, hl⟩ := qEnt_dec hq (by simp) (by simp)
    dsimp only [qEntOk] at hq
    simp only [Bool.and_eq_true, Bool.or_eq_true, beq_iff_eq, decide_eq_true_eq] at hq
    subst hl
    rcases hq.2 with ⟨h1, h2⟩ | ⟨h1, h2⟩ <;> subst h1 <;> subst h2
    · exact lv_fconst0 hexec hb hd kk
    · exact lv_fconst1 hexec hb hd kk
  · obtain ⟨hd, hl⟩ := qEnt_dec hq (by simp) (by simp)
    dsimp only [qEntOk] at hq
    simp only [Bool.and_eq_true, Bool.or_eq_true, beq_iff_eq, decide_eq_true_eq] at hq
    subst hl
    rcases hq.2 with ⟨h1, h2⟩ | ⟨h1, h2⟩ <;> subst h1 <;> subst h2
    · exact lv_dconst0 hexec hb hd kk
    · exact lv_dconst1 hexec hb hd kk
  · obtain ⟨hd, hl⟩ := qEnt_dec hq (by simp) (by simp)
    dsimp only [qEntOk] at hq
    rw [Bool.and_eq_true] at hq
    replace hq := hq.2
    subst hl
    split at hq
    · exact lv_ldc hexec hb hown (hts _ (qIsW_mem hq)) hd kk
    · rename_i k
      rw [List.any_eq_true] at hq
      obtain ⟨⟨q1, q2, q3, q4⟩, hq1, hq2⟩ := hq
      rw [Bool.and_eq_true, Bool.and_eq_true, beq_iff_eq, beq_iff_eq, decide_eq_true_eq] at hq2
      obtain ⟨⟨e1, e2⟩, e3⟩ := hq2
      dsimp only at e1 e2 e3
      have hR := hfx.2.2.2.2.2.2.2.1 _ hq1
      dsimp only at hR
      rw [e1, e2, e3] at hR
      refine va_ldcS hexec hb hown hR hd ?_
      have hG := hfx.2.2.2.2.2.2.2.2.2.2
      have : qCv G (.retAddr k) = .ref (z.2.2.2.2 k) := by rw [← hG]; rfl
      rw [this] at kk
      exact kk
    · cases hq
  · obtain ⟨hd, hl⟩ := qEnt_dec hq (by simp) (by simp)
    dsimp only [qEntOk] at hq
    rw [Bool.and_eq_true] at hq
    replace hq := hq.2
    subst hl
    split at hq
    · exact lv_ldcw hexec hb hown (hts _ (qIsW_mem hq)) hd kk
    · cases hq
  · obtain ⟨hd, hl⟩ := qEnt_dec hq (by simp) (by simp)
    dsimp only [qEntOk] at hq
    rw [Bool.and_eq_true] at hq
    replace hq := hq.2
    subst hl
    split at hq
    · exact lv_ldc2 hexec hb hown (hts _ (qIsW_mem hq)) hd kk
    · cases hq
  · cases hi
theorem qTab_p : ∀ (os : List Int) (bs : List Nat), qTabOk m pc os bs = true → os.length = bs.length ∧ ∀ (k : Nat) (o : Int), os[k]? = some o → ∃ b, bs[k]? = some b ∧ (pc : Int) + o = (qPc (PG.1 m b) : Int)
  | [], [], _ => ⟨rfl, fun k o h => by simp at h⟩
  | [], _ :: _, h => by simp [qTabOk] at h
  | _ :: _, [], h => by simp [qTabOk] at h
  | o :: os, b :: bs, h => by
    rw [qTabOk, Bool.and_eq_true, decide_eq_true_eq] at h
    obtain ⟨h1, h2⟩ := qTab_p os bs h.2
    refine ⟨by simp [h1], fun k o' hk => ?_⟩
    cases k with
    | zero => simp at hk; subst hk; exact ⟨b, rfl, h.1⟩
    | succ k => simp at hk; obtain ⟨b', hb1, hb2⟩ := h2 k o' hk; exact ⟨b', by simpa using hb1, hb2⟩
theorem sd_tab {a1 a2 a3 : Int} {a4 : Array Int} {x : Int32} {t : Nat} (C : qCx z G p l R s mid args meth c m) (hq : qEntOk m (pc, len, .tableswitch a1 a2 a3 a4, lk, cv) = true) (ht : qTab lk x = some t) (kk : W p l e R s mid args below meth c H locs cells slots Q (F0 mid (qPc (PG.1 m t)) ls st)) : W p l e R s mid args below meth c H locs cells slots Q (F0 mid pc ls (.int x :: st)) := by
  obtain ⟨hexec, hb, -⟩ := C
  unfold qEntOk at hq
  dsimp only at hq
  simp only [Bool.and_eq_true, decide_eq_true_eq] at hq
  obtain ⟨⟨⟨hd, hlo⟩, hhi⟩, hlk⟩ := hq
  split at hlk
  · rename_i b bs
    simp only [Bool.and_eq_true, decide_eq_true_eq] at hlk
    obtain ⟨hdf, hto⟩ := hlk
    obtain ⟨g1, g2⟩ := qTab_p _ _ hto
    rw [Array.length_toList] at g1
    unfold qTab at ht
    dsimp only at ht
    have hcl : ((x.toNatClampNeg : Nat) : Int) = max x.toInt 0 := by
      show ((x.toInt.toNat : Nat) : Int) = _
      omega
    split at ht
    · rename_i hneg
      cases ht
      have : x.toInt < 0 := by simpa using Int32.lt_iff_toInt_lt.mp hneg
      exact lv_tableOut hexec hb hd (Or.inl (by omega)) hdf kk
    · rename_i hneg
      cases ht
      have h0 : ¬ x.toInt < 0 := fun q => hneg (Int32.lt_iff_toInt_lt.mpr (by simpa using q))
      by_cases hin : x.toNatClampNeg < a4.size
      · obtain ⟨b', hb1, hb2⟩ := g2 x.toNatClampNeg a4[x.toNatClampNeg] (by rw [Array.getElem?_toList]; exact Array.getElem?_eq_getElem hin)
        rw [List.getD_eq_getElem?_getD, hb1] at kk
        refine lv_tableIn hexec hb hd (by omega) (by omega) (off := a4[x.toNatClampNeg]) ?_ hb2 kk
        rw [hlo, Int.sub_zero]
        exact Array.getElem?_eq_getElem hin
      · rw [List.getD_eq_getElem?_getD, List.getElem?_eq_none (by omega)] at kk
        exact lv_tableOut hexec hb hd (Or.inr (by omega)) hdf kk
  · cases hlk
theorem qBr_form {i : Instr} {st : List Value} {x : Bool × List Value} (h : qBr i st = some x) : ∃ off, i = .goto off ∨ i = .ifnonnull off ∨ (∃ cd, i = .ifCond cd off) ∨ ∃ cd, i = .if_icmp cd off := by
  unfold qBr at h
  split at h <;> first | (cases h; done) | exact ⟨_, Or.inr (Or.inr (Or.inl ⟨_, rfl⟩))⟩ | exact ⟨_, Or.inr (Or.inr (Or.inr ⟨_, rfl⟩))⟩ | exact ⟨_, Or.inr (Or.inl rfl)⟩ | exact ⟨_, Or.inl rfl⟩
theorem sd_jmp {b : Nat} {q : List Nat} {cb : Bool} {x : List Value} (C : qCx z G p l R s mid args meth c m) (hq : qEntOk m (pc, len, i, b :: q, cv) = true) (h : qBr i st = some (cb, x)) (kt : cb = true → W p l e R s mid args below meth c H locs cells slots Q (F0 mid (qPc (PG.1 m b)) ls x)) (kf : cb = false → W p l e R s mid args below meth c H locs cells slots Q (F0 mid (pc + len) ls x)) : W p l e R s mid args below meth c H locs cells slots Q (F0 mid pc ls st) := by
  obtain ⟨hexec, hb, -⟩ := C
  obtain ⟨off, hf⟩ := qBr_form h
  have hd : decode (qC m) pc = .ok (i, 3) ∧ len = 3 ∧ (pc : Int) + off = (qPc (PG.1 m b) : Int) := by
    rcases hf with rfl | rfl | ⟨cd, rfl⟩ | ⟨cd, rfl⟩ <;>
    · obtain ⟨hd, hl⟩ := qEnt_dec hq (by simp) (by simp)
      dsimp only [qEntOk] at hq
      rw [Bool.and_eq_true, decide_eq_true_eq] at hq
      have hl3 : len = 3 := hl
      subst hl3
      exact ⟨hd, rfl, hq.2⟩
  obtain ⟨hd1, hd2, hd3⟩ := hd
  subst hd2
  exact sd_br hexec hb hd1 hf hd3 h kt kf
theorem qSt_room {k : Nat} {v : Value} (hi : qStIx i = some k) (ho : qStOk i v = true) (hq : qEntOk m (pc, len, i, lk, cv) = true) : k + 1 < qLx m ∨ (k < qLx m ∧ v.category = 1) := by
  unfold qStIx at hi
  split at hi <;> first | (cases hi; done) | skip
  all_goals
    cases hi
    dsimp only [qEntOk] at hq
    rw [Bool.and_eq_true, decide_eq_true_eq] at hq
    replace hq := hq.2
    first
    | exact Or.inl hq
    | (refine Or.inr ⟨hq, ?_⟩; cases v <;> first | rfl | (exact absurd ho (by simp [qStOk])))
theorem qSt_ne {k : Nat} (hi : qStIx i = some k) : i ≠ .nop ∧ ∀ a b c d, i ≠ .tableswitch a b c d := by
  constructor
  · rintro rfl; cases hi
  · rintro a b c d rfl; cases hi
theorem qLd_ne {k : Nat} (hi : qLdIx i = some k) : i ≠ .nop ∧ ∀ a b c d, i ≠ .tableswitch a b c d := by
  constructor
  · rintro rfl; cases hi
  · rintro a b c d rfl; cases hi
theorem qOp_ne {st' : List Value} (hi : qOp i st = some st') : i ≠ .nop ∧ ∀ a b c d, i ≠ .tableswitch a b c d := by
  constructor
  · rintro rfl; cases hi
  · rintro a b c d rfl; cases hi
theorem sd_mem {h' : qHp} {st' : List Value} (C : qCx z G p l R s mid args meth c m) (hS : qSim z h H) (hl : ∀ q ∈ locs, z.1 ≤ q.base) (hq : qEntOk m (pc, len, i, lk, cv) = true) (hm : qMem G i lk st h = some (st', h')) (hrc : cells + (h'.1 - h.1) ≤ R.cells) (hrs : slots + (h'.2.1 - h.2.1) ≤ R.slots)
    (kk : qC3 z p l e R s mid args below meth c cells slots Q ls h h' st' (pc + len)) : W p l e R s mid args below meth c H locs cells slots Q (F0 mid pc ls st) := by
  obtain ⟨hexec, hb, hml, hown, hts, hlocks, htab, hnm, hRf, hRl, hst, hfx⟩ := C
  have B : qB3 z p c (qC m) s args (qY m).cls mid h H locs := ⟨hexec, hb, hts, hown, hfx.1, hS, hl⟩
  rcases qMem_p hm with ⟨k, rfl⟩ | ⟨k, rfl⟩ | rfl | rfl | rfl | rfl | rfl | rfl | rfl | rfl | rfl | rfl | rfl | rfl | rfl | ⟨t, rfl⟩ | ⟨k, rfl⟩ <;>
    (obtain ⟨hd, hl⟩ := qEnt_dec hq (by simp) (by simp); dsimp only [qEntOk] at hq; rw [Bool.and_eq_true] at hq; replace hq := hq.2; subst hl)
  · exact sd_getf B hd hq hm kk
  · rw [Bool.and_eq_true] at hq; exact sd_putf B hnm hd hq.1 hq.2 hm kk
  · exact sd_iald B hfx.2.1 hd hm kk
  · exact sd_bald B hd hq hm kk
  · exact sd_cald B hd hm kk
  · exact sd_lald B hd hm kk
  · exact sd_dald B hd hm kk
  · exact sd_aald B hd hq hm kk
  · exact sd_iast B hd hm kk
  · exact sd_bast B hd hq hm kk
  · exact sd_cast B hd hm kk
  · exact sd_last B hd hm kk
  · exact sd_dast B hd hm kk
  · exact sd_aast B hd hq hm kk
  · exact sd_alen B hfx.2.1 hd hm kk
  · exact sd_newa B hd hq hm hrc hrs kk
  · exact sd_anewa B hd hq hm hrc hrs kk
end SND7
