/-! ===== The small machine is sound, 7: by the fuel ===== -/
section SND9
variable {p : Program} {l : Launch} {e : Env} {R : Room} {s : State} {mid : MethodId} {args : Array Value} {below : List Frame} {meth : Method} {c : Code} {H : Heap} {locs : List Loc} {cells slots : Nat} {Q : State → Prop}
variable {pc len : Nat} {ls : Array Slot} {z : qE} {G : qG} {h : qHp} {st rest : List Value} {m : Nat} {r : qRes} {i : Instr} {lk : List Nat} {cv : Value} {L : qLV}
def qRetH (z : qE) (p : Program) (l : Launch) (e : Env) (R : Room) (s : State) (mid : MethodId) (args : Array Value) (below : List Frame) (meth : Method) (c : Code) (Q : State → Prop) (m b1 b2 : Nat) (r : qRes) : Prop :=
  ∀ (v : Option Value) (H1 : Heap) (locs1 : List Loc) (ls1 : Array Slot) (pc1 len1 : Nat) (i1 : Instr) (lk1 : List Nat) (cv1 : Value) (st1 : List Value), r.1 = .inl v → qSim z r.2 H1 → (∀ q ∈ locs1, z.1 ≤ q.base) → qRetP PG m i1 st1 v → qEntOk m (pc1, len1, i1, lk1, cv1) = true → W p l e R s mid args below meth c H1 locs1 (r.2.1 - b1) (r.2.2.1 - b2) Q (F0 mid pc1 ls1 st1)
def qThrH (z : qE) (p : Program) (l : Launch) (e : Env) (R : Room) (s : State) (mid : MethodId) (args : Array Value) (below : List Frame) (meth : Method) (c : Code) (Q : State → Prop) (m b1 b2 : Nat) (r : qRes) : Prop :=
  ∀ (En : Nat) (h1 : qHp) (H1 : Heap) (locs1 : List Loc) (ls1 : Array Slot) (pc1 len1 k w n : Nat) (rr : List Nat) (cv1 : Value), ¬ En < 100 → r = (.inr En, (h1.1 + 1, h1.2.1 + 6, h1.2.2)) → qSim z h1 H1 → (∀ q ∈ locs1, z.1 ≤ q.base) → b1 ≤ h1.1 → b2 ≤ h1.2.1 → ls1.size = qLx m → qEntOk m (pc1, len1, .new k, w :: En :: n :: rr, cv1) = true → W p l e R s mid args below meth c H1 locs1 (h1.1 - b1) (h1.2.1 - b2) Q (F0 mid pc1 ls1 [])
def qOutH (z : qE) (p : Program) (l : Launch) (e : Env) (R : Room) (s : State) (mid : MethodId) (args : Array Value) (below : List Frame) (meth : Method) (c : Code) (Q : State → Prop) (m b1 b2 : Nat) (r : qRes) : Prop :=
  ∀ (En q : Nat) (ce : Cell) (H1 : Heap) (locs1 : List Loc) (ls1 : Array Slot) (pc1 : Nat) (st1 : List Value), r.1 = .inr En → qSim z r.2 H1 → (∀ q ∈ locs1, z.1 ≤ q.base) → H1[q]? = some ce → ce.vm = .none → s.vm.findClass (qEName En) = some ce.cls → PG.2.2.1 m pc1 En = none → vx_W p l e R s mid args below meth c H1 locs1 (r.2.1 - b1) (r.2.2.1 - b2) Q (F0 mid pc1 ls1 st1) q
def qSndAt (z : qE) (G : qG) (l : Launch) (n : Nat) : Prop := ∀ (m : Nat) (es : List qEnt) (L : qLV) (st : List Value) (h : qHp) (r : qRes), qRun PG G n (m, es, L, st, h) = some r → qSeqOk m es = true → m < 319 → ∀ (p : Program) (e : Env) (R : Room) (s : State) (mid : MethodId) (args : Array Value) (below : List Frame) (meth : Method) (c : Code) (H : Heap) (locs : List Loc) (Q : State → Prop) (ls : Array Slot) (b1 b2 : Nat),
  qCx z G p l R s mid args meth c m → qSim z h H → qLok ls (qLx m) L → (∀ q ∈ locs, z.1 ≤ q.base) → b1 ≤ h.1 → b2 ≤ h.2.1 → r.2.1 - b1 ≤ R.cells → r.2.2.1 - b2 ≤ R.slots →
  qRetH z p l e R s mid args below meth c Q m b1 b2 r → qThrH z p l e R s mid args below meth c Q m b1 b2 r → qOutH z p l e R s mid args below meth c Q m b1 b2 r → W p l e R s mid args below meth c H locs (h.1 - b1) (h.2.1 - b2) Q (F0 mid (qPc es) ls st)
/-- the ends of a method that is called -/
theorem sd_retM {b1 b2 : Nat} (C : qCx z G p l R s mid args meth c m) (hr : meth.sig.returnType = qRt m) : qRetH z p l e R s mid args below meth c (vx_MQ below (qQc z r) (qXc z r) args s (r.2.1 - b1) (r.2.2.1 - b2) (qAb z)) m b1 b2 r := by
  obtain ⟨hexec, hb, hml, hown, hts, hlocks, htab, hnm, hRf, hRl, hst, hfx⟩ := C
  intro v H1 locs1 ls1 pc1 len1 i1 lk1 cv1 st1 hv hS hl hp hq
  have hend : ∀ t : State, t.heap = H1 → s.WarmedH t.vm → qQc z r args s (.returned v) t := fun t ht _ => ⟨v, hv, rfl, by rw [ht]; exact hS⟩
  rcases hp with ⟨rfl, x, rfl, rfl, hz⟩ | ⟨rfl, x, rfl, rfl⟩ | ⟨rfl, x, rfl, rfl⟩ | ⟨rfl, x, rfl, rfl⟩ | ⟨rfl, x, rfl, rfl⟩ | ⟨rfl, rfl, rfl⟩ <;>
    (obtain ⟨hd, hl1⟩ := qEnt_dec hq (by simp) (by simp); dsimp only [qEntOk] at hq; rw [Bool.and_eq_true] at hq; replace hq := hq.2; subst hl1)
  · split at hq
    · rename_i hrt
      exact vx_ret (W.iret hexec hb (hr.trans hrt) hend hl hd hlocks)
    · rename_i hrt
      rw [beq_iff_eq] at hq
      refine vx_ret (W.zret hexec hb (hr.trans hrt) ?_ hend hl hd hlocks)
      rcases hz hq with rfl | rfl <;> rfl
    · cases hq
    · cases hq
  · rw [decide_eq_true_eq] at hq
    exact vx_ret (W.lret hexec hb (hr.trans hq) hend hl hd hlocks)
  · rw [decide_eq_true_eq] at hq
    exact vx_ret (W.fret hexec hb (hr.trans hq) hend hl hd hlocks)
  · rw [decide_eq_true_eq] at hq
    exact vx_ret (W.dret hexec hb (hr.trans hq) hend hl hd hlocks)
  · split at hq
    · rename_i C9 hrt
      exact vx_ret (W.aret hexec hb (hr.trans hrt) (Or.inl ⟨_, rfl⟩) (Or.inr ⟨_, rfl⟩) hend hl hd hlocks)
    · cases hq
  · rw [decide_eq_true_eq] at hq
    exact vx_ret (W.vret hexec hb (hr.trans hq) hend hl hd hlocks)
theorem sd_outM {b1 b2 : Nat} (C : qCx z G p l R s mid args meth c m) : qOutH z p l e R s mid args below meth c (vx_MQ below (qQc z r) (qXc z r) args s (r.2.1 - b1) (r.2.2.1 - b2) (qAb z)) m b1 b2 r := by
  obtain ⟨hexec, hb, hml, hown, hts, hlocks, htab, hnm, hRf, hRl, hst, hfx⟩ := C
  intro En q ce H1 locs1 ls1 pc1 st1 hr hS hl hcell hv hcl hc
  have hh : tH.getD m [] = [] := by
    unfold PG at hc
    dsimp only at hc
    cases hq : tH.getD m [] with
    | nil => rfl
    | cons x t =>
      rw [hq] at hc
      dsimp only at hc
      split at hc <;> cases hc
  refine vx_out (E := qEName En) (ce := ce) ?_ hlocks hcell hv hcl (fun t ht _ => ⟨En, hr, rfl, by rw [ht]; exact hS⟩) hl (Nat.le_refl _) (Nat.le_refl _)
  intro x hx
  rw [htab, qHh, hh] at hx
  cases hx
theorem qAts_mem {w : Cond} {l : List Cond} (h : l.all (fun w => qInG w && vx_ot w) = true) (hw : w ∈ l) : w ∈ GW ∧ vx_ot w = true := by
  have := List.all_eq_true.mp h w hw
  rw [Bool.and_eq_true] at this
  exact ⟨qInG_mem this.1, this.2⟩
theorem sd_thrM {b1 b2 : Nat} (C : qCx z G p l R s mid args meth c m) (hS0 : qLow z s.heap) (hb1 : s.heap.size = b1) (hrc : r.2.1 - b1 ≤ R.cells) (hrs : r.2.2.1 - b2 ≤ R.slots) : qThrH z p l e R s mid args below meth c (vx_MQ below (qQc z r) (qXc z r) args s (r.2.1 - b1) (r.2.2.1 - b2) (qAb z)) m b1 b2 r := by
  obtain ⟨hexec, hb, hml, hown, hts, hlocks, htab, hnm, hRf, hRl, hst, hfx⟩ := C
  intro En h1 H1 locs1 ls1 pc1 len1 k w n rr cv1 hEn hr hS hl hb1' hb2' hsz hq
  obtain ⟨hd, hl1⟩ := qEnt_dec hq (by simp) (by simp)
  dsimp only [qEntOk] at hq
  rw [Bool.and_eq_true] at hq
  replace hq := hq.2
  subst hl1
  unfold qNewOk at hq
  dsimp only at hq
  rw [if_neg hEn] at hq
  split at hq
  · rename_i is ic wd rr'
    simp only [Bool.and_eq_true, decide_eq_true_eq, List.any_eq_true, beq_iff_eq] at hq
    obtain ⟨⟨⟨⟨⟨⟨⟨⟨q1, q2⟩, q3⟩, q4⟩, q5⟩, q6⟩, q, hqm, q7, q8⟩, q9⟩, q10⟩ := hq
    have hz := hfx.2.1.2.2
    obtain ⟨sa, hsa⟩ := hfx.2.2.2.2.2.2.2.2.1 q hqm
    rw [q7, q8] at hsa
    rw [q2] at hsa hown q4
    have hw := hts _ (qIsW_mem q4)
    have hU := hfx.2.2.1.kept (hS0.q hz)
    have hN := hfx.2.2.2.1.kept (hS0.q hz)
    have hSs : va_S (qAb z) s.heap H1 locs1 := ⟨by rw [hb1, hS.1]; exact hb1', fun q h1 h2 => by
      have h2' : q < z.1 := Nat.not_le.mp h2
      rw [hS.2.2.1 q h2', hS0.2 q h2'], hl⟩
    have hout : ∀ k, ∀ x ∈ c.exceptionTable.toList, covers x k = false := fun k x hx => by
      rw [htab, qHh, q6] at hx
      cases hx
    have d1 : r.2.1 = h1.1 + 1 := by rw [hr]
    have d2 : r.2.2.1 = h1.2.1 + 6 := by rw [hr]
    have hXC : ∀ t : State, s.vm.Alike t.vm → t.heap.size = H1.size + 1 → (∀ q : Nat, q < H1.size → t.heap[q]? = H1[q]?) → qXc z r (qEName En) s t := fun t _ ht ho => by
      refine ⟨En, by rw [hr], rfl, ?_⟩
      rw [hr]
      refine ⟨by rw [ht, hS.1], by have := hS.2.1; dsimp only; omega, fun q hq => (ho q (by have := hS.2.1; have := hS.1; omega)).trans (hS.2.2.1 q hq), fun a c hc => ?_⟩
      have := hS.2.2.2 a c hc
      exact this.kept (ho a (by rw [hS.1]; exact this.lt hS.2.1 hS.1))
    have cs : h1.1 - b1 + 1 ≤ r.2.1 - b1 := by omega
    have ss : h1.2.1 - b2 + 6 ≤ r.2.2.1 - b2 := by omega
    have hc1 : ls1.size = c.maxLocals := by rw [hsz, hml]
    rcases q1 with rfl | rfl
    · have hic : ic = 107 := by rw [q3]; rfl
      subst hic
      have hat := fun {w : Cond} => qAts_mem (w := w) qAt_IAE
      have hini := qInG_mem qIn_IAE
      have hgood : ∀ w ∈ Cond.classLink "EnvelopeBudget" k "java/lang/IllegalArgumentException" :: Cond.initialized "java/lang/IllegalArgumentException" :: vx_atS "EnvelopeBudget" 107 "java/lang/IllegalArgumentException" qExNames, vx_ot w = true := fun w hw => by
        rcases List.mem_cons.mp hw with h | h
        · rw [h]; rfl
        · rcases List.mem_cons.mp h with h | h
          · rw [h]; rfl
          · exact (hat h).2
      by_cases hwd : wd = 0
      · rw [if_pos hwd] at q10
        simp only [Bool.and_eq_true, decide_eq_true_eq] at q10
        exact sd_throwS (names := qExNames) (A := qAb z) hexec hb hst hown (by decide +kernel) (by decide +kernel) hw (hts _ hini) hsa (fun w h => hts _ (hat h).1) hgood hU hN hSs hc1 hd q9 q10.1.1 q10.1.2 q10.2 (hout _) (by rw [hRf]; show 2 + 3 < _; omega) (by show 0 + (13 * 3 + 43) ≤ _; omega) (by omega) (by omega) hlocks hXC hl cs ss
      · rw [if_neg hwd] at q10
        simp only [Bool.and_eq_true, decide_eq_true_eq] at q10
        exact sd_throwSW (names := qExNames) (A := qAb z) hexec hb hst hown (by decide +kernel) (by decide +kernel) hw (hts _ hini) hsa (fun w h => hts _ (hat h).1) hgood hU hN hSs hc1 hd q9 q10.1.1 q10.1.2 q10.2 (hout _) (by rw [hRf]; show 2 + 3 < _; omega) (by show 0 + (13 * 3 + 43) ≤ _; omega) (by omega) (by omega) hlocks hXC hl cs ss
    · have hic : ic = 194 := by rw [q3]; rfl
      subst hic
      have hat := fun {w : Cond} => qAts_mem (w := w) qAt_IOB
      have hini := qInG_mem qIn_IOB
      have hgood : ∀ w ∈ Cond.classLink "EnvelopeBudget" k "java/lang/IndexOutOfBoundsException" :: Cond.initialized "java/lang/IndexOutOfBoundsException" :: vx_atS "EnvelopeBudget" 194 "java/lang/IndexOutOfBoundsException" qExNames, vx_ot w = true := fun w hw => by
        rcases List.mem_cons.mp hw with h | h
        · rw [h]; rfl
        · rcases List.mem_cons.mp h with h | h
          · rw [h]; rfl
          · exact (hat h).2
      by_cases hwd : wd = 0
      · rw [if_pos hwd] at q10
        simp only [Bool.and_eq_true, decide_eq_true_eq] at q10
        exact sd_throwS (names := qExNames) (A := qAb z) hexec hb hst hown (by decide +kernel) (by decide +kernel) hw (hts _ hini) hsa (fun w h => hts _ (hat h).1) hgood hU hN hSs hc1 hd q9 q10.1.1 q10.1.2 q10.2 (hout _) (by rw [hRf]; show 2 + 3 < _; omega) (by show 0 + (13 * 3 + 43) ≤ _; omega) (by omega) (by omega) hlocks hXC hl cs ss
      · rw [if_neg hwd] at q10
        simp only [Bool.and_eq_true, decide_eq_true_eq] at q10
        exact sd_throwSW (names := qExNames) (A := qAb z) hexec hb hst hown (by decide +kernel) (by decide +kernel) hw (hts _ hini) hsa (fun w h => hts _ (hat h).1) hgood hU hN hSs hc1 hd q9 q10.1.1 q10.1.2 q10.2 (hout _) (by rw [hRf]; show 2 + 3 < _; omega) (by show 0 + (13 * 3 + 43) ≤ _; omega) (by omega) (by omega) hlocks hXC hl cs ss
  · cases hq
end SND9
