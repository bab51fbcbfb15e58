/-! ===== The small machine is sound, 8: the whole ===== -/
section SND10
variable {z : qE} {G : qG} {l : Launch}
/-- the contract of a method that is called, out of its run -/
theorem qMet_of {n : Nat} (ih : qSndAt z G l n) (hst : l.stackTraces = false) {m' : Nat} {av : List Value} {h : qHp} {r : qRes} (hm : m' < 318) (hr : qRun PG G n (qEntry PG m' av h) = some r) (hlen : (qArgs av).length ≤ qLx m') : qMt z G l m' av h r := by
  obtain ⟨M1, M2, M3, M4, M5, M6, M7, M8, M9⟩ := qM_p hm
  have hmono := qRun_mono PG G n _ _ hr
  have hsl : (lg_sl av).length ≤ qLx m' := by rw [← (qArgs_spec av).1]; exact hlen
  have hent := qPad_ok (vs := av) (n := qLx m') hsl
  have body : ∀ (p : Program) (e : Env) (s : State) (mid : MethodId) (args : Array Value) (below : List Frame) (meth : Method) (c : Code), p.tables.exec = Jvm.exec → c.code = qC m' → meth.sig.returnType = qRt m' → c.maxLocals = qLx m' → s.vm.findClass (qY m').cls = some mid.cls → meth.name = (qY m').name → (∀ w ∈ GW, w.before args s = true) → meth.locks = false → c.exceptionTable.toList = tableOf (qHh m') → args = av.toArray → qFx z G s → qSim z h s.heap →
      W p l e { frames := qHt m', locals := 35 * qHt m', cells := r.2.1 - h.1, slots := r.2.2.1 - h.2.1 } s mid args below meth c s.heap [] 0 0 (vx_MQ below (qQc z r) (qXc z r) args s (r.2.1 - h.1) (r.2.2.1 - h.2.1) (qAb z)) (entryFrame mid args (qLx m')) := by
    intro p e s mid args below meth c hx hb hrt hml hown hnm hts hlocks htab ha hfx hsim
    subst ha
    rw [lg_entry_eq]
    have C : qCx z G p l { frames := qHt m', locals := 35 * qHt m', cells := r.2.1 - h.1, slots := r.2.2.1 - h.2.1 } s mid av.toArray meth c m' := ⟨hx, hb, hml, hown, hts, hlocks, htab, fun h => hnm.trans h, rfl, Nat.le_refl _, hst, hfx⟩
    have key := ih m' (PG.1 m' 0) (qPad (qLx m') (qArgs av)) [] h r hr (qBlk_ok (by omega) 0) (by omega) p e _ s mid av.toArray below meth c s.heap [] (vx_MQ below (qQc z r) (qXc z r) av.toArray s (r.2.1 - h.1) (r.2.2.1 - h.2.1) (qAb z)) _ h.1 h.2.1 C hsim hent (fun q hq => nomatch hq) (Nat.le_refl _) (Nat.le_refl _) (Nat.le_refl _) (Nat.le_refl _) (sd_retM C hrt) (sd_thrM C hsim.low hsim.1 (Nat.le_refl _) (Nat.le_refl _)) (sd_outM C)
    rw [Nat.sub_self, Nat.sub_self, qPc_0 m' (by omega)] at key
    exact key
  by_cases hh : tH.getD m' [] = []
  · unfold qMt
    refine sd_ofW (ws' := GW) M8 (by rw [qHead_nil hh]) ?_
    intro p e s mid args below meth c s₁ B hml ht hP
    obtain ⟨ha, hfx, hsim⟩ := hP
    have hw := atoms_spec (ws := qHead m' :: GW) B.pre
    exact body p e s mid args below meth c B.exec B.bytes B.returns hml (findClass_of_methodNamed B.named) (name_of_methodNamed B.named B.method).1 (fun w h => hw w (List.mem_cons_of_mem _ h)) B.notSynchronized (by
      rw [qHh, hh]
      cases hq : c.exceptionTable.toList with
      | nil => rfl
      | cons a b => exact (ht a (by rw [hq]; exact List.mem_cons_self)).elim) ha hfx hsim
  · unfold qMt
    refine sd_ofWH (ws' := GW) (hh := qHh m') M8 (by rw [qHead_cons hh]) ?_
    intro p e s mid args below meth c s₁ B hml hP
    obtain ⟨ha, hfx, hsim⟩ := hP
    have hw := atoms_spec (ws := qHead m' :: GW) B.pre
    exact body p e s mid args below meth c B.exec B.bytes B.returns hml (findClass_of_methodNamed B.named) (name_of_methodNamed B.named B.method).1 (fun w h => hw w (List.mem_cons_of_mem _ h)) B.notSynchronized (vx_table (x := qY m') B (by rw [← qHead_cons hh]; exact hw _ List.mem_cons_self)) ha hfx hsim
theorem qStr_p {h : qHp} {H : Heap} {a : Nat} {fs : List Value} (hS : qSim z h H) (hs : qStr h a = some fs) : ∃ k, k < 14 ∧ a = z.2.2.2.2 k ∧ a < z.1 ∧ fs = qTx k := by
  unfold qStr at hs
  split at hs
  · rename_i fs' hh
    cases hs
    have := hS.2.2.2 a _ hh
    unfold qAt at this
    dsimp only at this
    rwa [if_pos rfl] at this
  · cases hs
theorem qOfNat {x : Int32} (h : ¬ x < 0) : Int32.ofNat x.toNatClampNeg = x := by
  have h0 : ¬ x.toInt < 0 := fun q => h (Int32.lt_iff_toInt_lt.mpr (by simpa using q))
  apply Int32.toInt_inj.mp
  rw [Int32.toInt_ofNat']
  have h1 : ((x.toNatClampNeg : Nat) : Int) = x.toInt := by
    show ((x.toInt.toNat : Nat) : Int) = _
    omega
  rw [h1]
  have := Int32.le_toInt x
  have := Int32.toInt_lt x
  have hs : ((Int32.size : Nat) : Int) = 4294967296 := rfl
  rw [Int.bmod_eq_of_le] <;> omega
theorem qSnd (hst : l.stackTraces = false) : ∀ n, qSndAt z G l n := by
  intro n
  induction n with
  | zero => intro m es L st h r hr; cases hr
  | succ n ih =>
    intro m es0 L st h r hrun hseq hm p e R s mid args below meth c H locs Q ls b1 b2 C hS hL hl hb1 hb2 hrc hrs hret hthr hout
    have hmono0 : qLe h r.2 := qRun_mono PG G _ _ _ hrun
    rw [qRun] at hrun
    cases hs : qStep PG G (m, es0, L, st, h) with
    | none => rw [hs] at hrun; cases hrun
    | some act =>
      rw [hs] at hrun
      obtain ⟨pc, len, i, lk, cv, es, rfl, hv⟩ := qStep_view hs
      obtain ⟨hq, hseq', hnx⟩ := qSeq_hd hseq
      show W p l e R s mid args below meth c H locs (h.1 - b1) (h.2.1 - b2) Q (F0 mid pc ls st)
      have go : ∀ (L1 : qLV) (st1 : List Value) (h1 : qHp) (H1 : Heap) (locs1 : List Loc) (ls1 : Array Slot), act = .inr (.inl (m, es, L1, st1, h1)) → qLe h h1 → qSim z h1 H1 → qLok ls1 (qLx m) L1 → (∀ q ∈ locs1, z.1 ≤ q.base) → W p l e R s mid args below meth c H1 locs1 (h1.1 - b1) (h1.2.1 - b2) Q (F0 mid (pc + len) ls1 st1) := by
        intro L1 st1 h1 H1 locs1 ls1 e1 hle hS1 hL1 hl1
        subst e1
        have hne := qRun_ne hrun
        have := ih m es L1 st1 h1 r hrun hseq' hm p e R s mid args below meth c H1 locs1 Q ls1 b1 b2 C hS1 hL1 hl1 (Nat.le_trans hb1 hle.1) (Nat.le_trans hb2 hle.2) hrc hrs hret hthr hout
        rwa [hnx hne] at this
      have jmp : ∀ (b : Nat) (L1 : qLV) (st1 : List Value) (ls1 : Array Slot), act = .inr (.inl (qJump PG m b L1 st1 h)) → qLok ls1 (qLx m) L1 → W p l e R s mid args below meth c H locs (h.1 - b1) (h.2.1 - b2) Q (F0 mid (qPc (PG.1 m b)) ls1 st1) := by
        intro b L1 st1 ls1 e1 hL1
        subst e1
        exact ih m (PG.1 m b) (qMask (PG.2.1 m b) L1) st1 h r hrun (qBlk_ok hm b) hm p e R s mid args below meth c H locs Q ls1 b1 b2 C hS (hL1.mask _) hl hb1 hb2 hrc hrs hret hthr hout
      have C' := C
      obtain ⟨hexec, hb, hml, hown, hts, hlocks, htab, hnm, hRf, hRl, -, hfx⟩ := C'
      rcases hv with ⟨rfl, b, q, rfl, e9⟩ | ⟨k, j, x, rfl, hld, e9⟩ | ⟨a1, a2, a3, a4, x, q, t, rfl, rfl, htb, e9⟩ | ⟨k, w, ci, n9, q, rfl, rfl, hci, e9⟩ | ⟨k, w, ci, n9, q, rfl, rfl, hci, rfl, e9⟩ | ⟨v, hp, e9⟩ | ⟨hii, hi⟩ | ⟨hci, e9⟩ | ⟨st', hop, e9⟩ | ⟨cb, x, b, q, hbr, rfl, e9⟩ | ⟨k, v, hix, hld, hok, e9⟩ | ⟨k, v, q, hix, rfl, hok, e9⟩ | ⟨st', h', hme, e9⟩
      · have hpc : qPc (PG.1 m b) = pc := by
          dsimp only [qEntOk] at hq
          exact of_decide_eq_true hq
        have := jmp b L st ls e9 hL
        rwa [hpc] at this
      · obtain ⟨hd, hl1⟩ := qEnt_dec hq (by simp) (by simp)
        have hk : k < qLx m := by
          dsimp only [qEntOk] at hq
          rw [Bool.and_eq_true, decide_eq_true_eq] at hq
          exact hq.2
        subst hl1
        exact sd_inc hexec hb hd hL hk hld (fun ls' hL' => go _ _ _ _ _ _ e9 (qLe.rf h) hS hL' hl)
      · exact sd_tab C hq htb (jmp t L q ls e9 hL)
      · obtain ⟨hd, hl1⟩ := qEnt_dec hq (by simp) (by simp)
        dsimp only [qEntOk] at hq
        rw [Bool.and_eq_true] at hq
        replace hq := hq.2
        unfold qNewOk at hq
        dsimp only at hq
        rw [if_pos hci] at hq
        simp only [Bool.and_eq_true, decide_eq_true_eq] at hq
        subst hl1
        have hle : qLe h (qNewC h (.inr (ci, qBorn ci)) n9) := ⟨Nat.le_succ _, Nat.le_add_right _ _⟩
        have hmo : qLe (qNewC h (.inr (ci, qBorn ci)) n9) r.2 := by
          subst e9
          exact qRun_mono PG G _ _ _ hrun
        have m1 : h.1 + 1 ≤ r.2.1 := hmo.1
        have m2 : h.2.1 + n9 ≤ r.2.2.1 := hmo.2
        refine sd_new (mm := m) (r := []) ⟨hexec, hb, hts, hown, hfx.1, hS, hl⟩ hq.1.1 hq.1.2 hq.2 hd (by omega) (by omega) (fun H1 hS1 => ?_)
        have := go _ _ _ H1 locs ls e9 hle hS1 hL hl
        have e1 : (qNewC h (.inr (ci, qBorn ci)) n9).1 - b1 = h.1 - b1 + 1 := by show h.1 + 1 - b1 = _; omega
        have e2 : (qNewC h (.inr (ci, qBorn ci)) n9).2.1 - b2 = h.2.1 - b2 + n9 := by show h.2.1 + n9 - b2 = _; omega
        rw [e1, e2] at this
        exact this
      · subst e9
        cases hrun
        exact hthr ci h H locs ls pc len k w n9 q cv hci rfl hS hl hb1 hb2 hL.1 hq
      · subst e9
        cases hrun
        exact hret v H locs ls pc len i lk cv st rfl hS hl hp hq
      · obtain ⟨vi, idx, hvi, hiok⟩ : ∃ vi idx, i = qIv vi idx ∧ qInvOk m idx vi lk = true ∧ decode (qC m) pc = .ok (qIv vi idx, 3) ∧ len = 3 := by
          rcases hii with ⟨k, rfl⟩ | ⟨k, rfl⟩ | ⟨k, rfl⟩ <;>
            (obtain ⟨hd, hl1⟩ := qEnt_dec hq (by simp) (by simp); dsimp only [qEntOk] at hq; rw [Bool.and_eq_true] at hq; subst hl1)
          · exact ⟨0, k, rfl, hq.2, hd, rfl⟩
          · exact ⟨1, k, rfl, hq.2, hd, rfl⟩
          · exact ⟨2, k, rfl, hq.2, hd, rfl⟩
        obtain ⟨hiok, hd, hl3⟩ := hiok
        subst hl3
        rcases qInv_view hi with ⟨lr, a, q, rfl, rfl, hw8, e9⟩ | ⟨lr, a, q, fs, rfl, rfl, hstr, hw8, e9⟩ | ⟨lr, ix, a, q, fs, v, rfl, rfl, hstr, hix0, hix, hw8, e9⟩ | ⟨lr, n9, j9, b9, i9, a, q, h', rfl, rfl, hcp, hw8, e9⟩ | ⟨k, m', n', lr, rfl, hk, hlen, hw8, harg, hrcv, e9⟩
        · unfold qInvOk at hiok
          dsimp only at hiok
          rw [if_pos rfl] at hiok
          simp only [Bool.and_eq_true, beq_iff_eq, decide_eq_true_eq] at hiok
          obtain ⟨⟨hv1, hlk⟩, hht⟩ := hiok
          subst hv1
          exact W.objInit hexec hb hown (hts _ (qIsW_mem hlk)) (hts _ (qIsW_mem (i := 93) (by decide +kernel))) (hts _ (qIsW_mem (i := 94) (by decide +kernel))) (g := F0 mid pc ls (.ref a :: q)) rfl (by rw [hml]; exact hL.1) rfl hd (by omega) (by show 2 * 0 + _ + 12 ≤ _; rw [qW_sum]; omega) (go _ _ _ _ _ _ e9 (qLe.rf h) hS hL hl)
        · unfold qInvOk at hiok
          dsimp only at hiok
          rw [if_neg (by decide), if_pos rfl] at hiok
          simp only [Bool.and_eq_true, beq_iff_eq, decide_eq_true_eq] at hiok
          obtain ⟨⟨hv1, hlk⟩, hht⟩ := hiok
          subst hv1
          obtain ⟨k9, hk9, rfl, -, rfl⟩ := qStr_p hS hstr
          exact qJ_V (As := []) (rest := q) (jc_ln l z G hk9) hexec hb (by rw [hml]; exact hL.1.symm) hown hts hfx hS.low (qIsW_mem (i := 467) (by decide +kernel)) (qIsW_mem (i := 75) (by decide +kernel)) (by decide) (fun sig h => by
            have : (parseMethodDescriptor yLn.desc).map (fun d => d.parameters.length) = some 0 := by decide +kernel
            rw [h] at this; exact (Option.some.inj this).symm) (qIsW_mem hlk) (qIsW_mem (i := 465) (by decide +kernel)) (qIsW_mem (i := 466) (by decide +kernel)) (by omega) (by omega) (jc_rc hfx hS.low hk9) (by rw [qW_sum]; exact hw8) (by have := hmono0.1; omega) (by have := hmono0.2; omega) hd (go _ _ _ _ _ _ e9 (qLe.rf h) hS hL hl)
        · unfold qInvOk at hiok
          dsimp only at hiok
          rw [if_neg (by decide), if_neg (by decide), if_pos rfl] at hiok
          simp only [Bool.and_eq_true, beq_iff_eq, decide_eq_true_eq] at hiok
          obtain ⟨⟨hv1, hlk⟩, hht⟩ := hiok
          subst hv1
          obtain ⟨k9, hk9, rfl, -, rfl⟩ := qStr_p hS hstr
          have hlt := (List.getElem?_eq_some_iff.mp hix).1
          obtain ⟨x9, rfl⟩ : ∃ x9, v = .int x9 := by
            have := (qTx_at k9 hk9 _ hlt).1
            rw [List.getD_eq_getElem?_getD, hix] at this
            exact ⟨_, this⟩
          have hix9 : Int32.ofNat ix.toNatClampNeg = ix := qOfNat hix0
          have := qJ_V (As := [.int (Int32.ofNat ix.toNatClampNeg)]) (rest := q) (cells := h.1 - b1) (slots := h.2.1 - b2) (locs := locs) (e := e) (below := below) (Q := Q) (jc_ch l z G hk9 hlt hix) hexec hb (by rw [hml]; exact hL.1.symm) hown hts hfx hS.low (qIsW_mem (i := 477) (by decide +kernel)) (qIsW_mem (i := 75) (by decide +kernel)) (by decide) (fun sig h => by
            have : (parseMethodDescriptor yCh.desc).map (fun d => d.parameters.length) = some 1 := by decide +kernel
            rw [h] at this; exact (Option.some.inj this).symm) (qIsW_mem hlk) (qIsW_mem (i := 475) (by decide +kernel)) (qIsW_mem (i := 476) (by decide +kernel)) (by omega) (by omega) (jc_rc hfx hS.low hk9) (by rw [qW_sum]; exact hw8) (by have := hmono0.1; omega) (by have := hmono0.2; omega) hd (go _ _ _ _ _ _ e9 (qLe.rf h) hS hL hl)
          rw [hix9] at this
          exact this
        · unfold qInvOk at hiok
          dsimp only at hiok
          rw [if_neg (by decide), if_neg (by decide), if_neg (by decide), if_pos rfl] at hiok
          simp only [Bool.and_eq_true, beq_iff_eq, decide_eq_true_eq] at hiok
          obtain ⟨⟨hv1, hlk⟩, hht⟩ := hiok
          subst hv1
          have hle := qCpy_le hcp
          have c1 : h.1 - b1 + (h'.1 - h.1) = h'.1 - b1 := by have := hle.1; omega
          have c2 : h.2.1 - b2 + (h'.2.1 - h.2.1) = h'.2.1 - b2 := by have := hle.2; omega
          refine sd_copy ⟨hexec, hb, hts, hown, hfx.1, hS, hl⟩ (by rw [hml]; exact hL.1.symm) (hts _ (qIsW_mem hlk)) hcp hw8 (by omega) (by omega) hd (fun H1 locs1 hS1 hl1 => ?_) (qW_sum q)
          rw [c1, c2]
          exact go _ _ _ _ _ _ e9 hle hS1 hL hl1
        · subst e9
          dsimp only at hrun
          cases h1 : qRun PG G n (qEntry PG m' (st.take n').reverse h) with
          | none => rw [h1] at hrun; cases hrun
          | some r1 =>
            rw [h1] at hrun
            dsimp only at hrun
            have hle1 : qLe h r1.2 := qRun_mono PG G _ _ _ h1
            have hm' : m' < 318 := by
              unfold qInvOk at hiok
              dsimp only at hiok
              rw [if_neg hk.1, if_neg hk.2.1, if_neg hk.2.2.1, if_neg hk.2.2.2] at hiok
              cases lr with
              | nil => cases hiok
              | cons w lr =>
                dsimp only at hiok
                simp only [Bool.and_eq_true, decide_eq_true_eq] at hiok
                exact hiok.1.1.1.1
            have hM := qMet_of ih hst hm' h1 harg
            cases h2 : qBack PG m pc es L (st.drop n') r1 with
            | none => rw [h2] at hrun; cases hrun
            | some x =>
              rw [h2] at hrun
              have hle2 : qLe r1.2 r.2 := by
                rcases qBack_h h2 with ⟨r', e1, e2⟩ | ⟨y, e1, e2⟩
                · subst e1; cases hrun; rw [e2]; exact qLe.rf _
                · subst e1; have := qRun_mono PG G _ _ _ hrun; rw [e2] at this; exact this
              have c1 : h.1 - b1 + (r1.2.1 - h.1) = r1.2.1 - b1 := by have := hle1.1; omega
              have c2 : h.2.1 - b2 + (r1.2.2.1 - h.2.1) = r1.2.2.1 - b2 := by have := hle1.2; omega
              obtain ⟨-, hR⟩ := sd_inv C hiok hk hlen hw8 hrcv hS hM hd hL.1 (cells := h.1 - b1) (slots := h.2.1 - b2) (locs := locs) (e := e) (below := below) (by rw [c1]; have := hle2.1; omega) (by rw [c2]; have := hle2.2; omega)
              refine sd_callR hR hl (fun En ce q9 H1 locs1 hrE hS1 hl1 hcell hcv hcl => ?_) (fun v H1 locs1 hrv hS1 hl1 => ?_)
              · rw [c1, c2]
                unfold qBack at h2
                rw [hrE] at h2
                dsimp only at h2
                unfold qCatch at h2
                split at h2
                · rename_i b kk hc
                  cases h2
                  dsimp only at hrun
                  have hne := qRun_ne hrun
                  refine sd_catch C hm hc hne hL hcell hcv hcl (fun ls' hL' => ?_)
                  have hseq9 : qSeqOk m (PG.1 m b).tail = true := by
                    have := qBlk_ok hm b
                    cases hq9 : PG.1 m b with
                    | nil => rfl
                    | cons e0 tl => rw [hq9] at this; exact (qSeq_hd this).2.1
                  exact ih m (PG.1 m b).tail _ [] r1.2 r hrun hseq9 hm p e R s mid args below meth c H1 locs1 Q ls' b1 b2 C hS1 hL' hl1 (Nat.le_trans hb1 hle1.1) (Nat.le_trans hb2 hle1.2) hrc hrs hret hthr hout
                · rename_i hc
                  cases h2
                  cases hrun
                  exact hout En q9 ce H1 locs1 ls pc _ rfl hS1 hl1 hcell hcv hcl hc
              · rw [c1, c2]
                unfold qBack at h2
                rw [hrv] at h2
                have fin : ∀ (st1 : List Value), qRun PG G n (m, es, L, st1, r1.2) = some r → W p l e R s mid args below meth c H1 locs1 (r1.2.1 - b1) (r1.2.2.1 - b2) Q (F0 mid (pc + 3) ls st1) := fun st1 hr1 => by
                  have hne := qRun_ne hr1
                  have := ih m es L st1 r1.2 r hr1 hseq' hm p e R s mid args below meth c H1 locs1 Q ls b1 b2 C hS1 hL hl1 (Nat.le_trans hb1 hle1.1) (Nat.le_trans hb2 hle1.2) hrc hrs hret hthr hout
                  rwa [hnx hne] at this
                cases v with
                | some v => dsimp only at h2; cases h2; exact fin _ hrun
                | none => dsimp only at h2; cases h2; exact fin _ hrun
      · exact sd_const C hq hci (go _ _ _ _ _ _ e9 (qLe.rf h) hS hL hl)
      · obtain ⟨n1, n2⟩ := qOp_ne hop
        obtain ⟨hd, hl1⟩ := qEnt_dec hq n1 n2
        subst hl1
        exact sd_op hexec hb hd hop (go _ _ _ _ _ _ e9 (qLe.rf h) hS hL hl)
      · refine sd_jmp C hq hbr (fun ht => ?_) (fun hf => ?_)
        · rw [if_pos ht] at e9; exact jmp b L x ls e9 hL
        · rw [if_neg (by rw [hf]; decide)] at e9; exact go _ _ _ _ _ _ e9 (qLe.rf h) hS hL hl
      · obtain ⟨n1, n2⟩ := qLd_ne hix
        obtain ⟨hd, hl1⟩ := qEnt_dec hq n1 n2
        subst hl1
        exact sd_ld hexec hb hd hix hL hld hok (go _ _ _ _ _ _ e9 (qLe.rf h) hS hL hl)
      · obtain ⟨n1, n2⟩ := qSt_ne hix
        obtain ⟨hd, hl1⟩ := qEnt_dec hq n1 n2
        have hrm := qSt_room hix hok hq
        subst hl1
        exact sd_st hexec hb hd hix hL hrm hok (fun ls' hL' => go _ _ _ _ _ _ e9 (qLe.rf h) hS hL' hl)
      · have hle := qMem_le hme
        have hmo : qLe h' r.2 := by subst e9; exact qRun_mono PG G _ _ _ hrun
        have c1 : h.1 - b1 + (h'.1 - h.1) = h'.1 - b1 := by have := hle.1; omega
        have c2 : h.2.1 - b2 + (h'.2.1 - h.2.1) = h'.2.1 - b2 := by have := hle.2; omega
        refine sd_mem C hS hl hq hme (by rw [c1]; have := hmo.1; omega) (by rw [c2]; have := hmo.2; omega) (fun H1 locs1 hS1 hl1 => ?_)
        rw [c1, c2]
        exact go _ _ _ _ _ _ e9 hle hS1 hL hl1
end SND10
