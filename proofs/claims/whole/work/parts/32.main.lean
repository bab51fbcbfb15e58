/-! ===== The small machine is sound, 5: the whole ===== -/
def qCx (z : qE) (G : qG) (p : Program) (l : Launch) (R : Room) (s : State) (mid : MethodId) (args : Array Value) (meth : Method) (c : Code) (m : Nat) : Prop :=
  p.tables.exec = Jvm.exec ∧ c.code = qC m ∧ c.maxLocals = qLx m ∧ s.vm.findClass (qY m).cls = some mid.cls ∧ (∀ w ∈ GW, w.before args s = true) ∧ meth.locks = false ∧ c.exceptionTable.toList = tableOf (qHh m) ∧ ((qY m).name = "<init>" → meth.name = "<init>") ∧ R.frames = qHt m ∧ 35 * qHt m ≤ R.locals ∧ l.stackTraces = false ∧ qFx z G s
theorem qEnt_dec {m pc len : Nat} {i : Instr} {lk : List Nat} {cv : Value} (h : qEntOk m (pc, len, i, lk, cv) = true) (h1 : i ≠ .nop) (h2 : ∀ a b c d, i ≠ .tableswitch a b c d) : decode (qC m) pc = .ok (i, len) ∧ len = qLen i := by
  unfold qEntOk at h
  dsimp only at h
  split at h
  · exact absurd rfl h1
  · exact absurd rfl (h2 _ _ _ _)
  · rw [Bool.and_eq_true, Bool.and_eq_true, decide_eq_true_eq, beq_iff_eq] at h
    exact h.1
theorem qSeq_hd {m : Nat} {e : qEnt} {es : List qEnt} (h : qSeqOk m (e :: es) = true) : qEntOk m e = true ∧ qSeqOk m es = true ∧ (es ≠ [] → qPc es = e.1 + e.2.1) := by
  cases es with
  | nil => exact ⟨h, rfl, fun q => absurd rfl q⟩
  | cons e' r =>
    rw [qSeqOk, Bool.and_eq_true, Bool.and_eq_true, beq_iff_eq] at h
    exact ⟨h.1.1, h.2, fun _ => h.1.2⟩
theorem qB_all {m : Nat} (hm : m < 319) : qBlocksOk m = true := by
  have h0 := qB_0
  by_cases h : m < 20
  · have := qB_0 m h; rwa [Nat.zero_add] at this
  have g : ∀ (a n : Nat), (∀ k, k < n → qBlocksOk (a + k) = true) → a ≤ m → m < a + n → qBlocksOk m = true := fun a n hq h1 h2 => by
    have := hq (m - a) (by omega)
    rwa [show a + (m - a) = m by omega] at this
  rcases Nat.lt_or_ge m 160 with h1 | h1
  · rcases Nat.lt_or_ge m 80 with h2 | h2
    · rcases Nat.lt_or_ge m 40 with h3 | h3
      · exact g 20 20 qB_20 (by omega) (by omega)
      · rcases Nat.lt_or_ge m 60 with h4 | h4
        · exact g 40 20 qB_40 (by omega) (by omega)
        · exact g 60 20 qB_60 (by omega) (by omega)
    · rcases Nat.lt_or_ge m 120 with h3 | h3
      · rcases Nat.lt_or_ge m 100 with h4 | h4
        · exact g 80 20 qB_80 (by omega) (by omega)
        · exact g 100 20 qB_100 (by omega) (by omega)
      · rcases Nat.lt_or_ge m 140 with h4 | h4
        · exact g 120 20 qB_120 (by omega) (by omega)
        · exact g 140 20 qB_140 (by omega) (by omega)
  · rcases Nat.lt_or_ge m 240 with h2 | h2
    · rcases Nat.lt_or_ge m 200 with h3 | h3
      · rcases Nat.lt_or_ge m 180 with h4 | h4
        · exact g 160 20 qB_160 (by omega) (by omega)
        · exact g 180 20 qB_180 (by omega) (by omega)
      · rcases Nat.lt_or_ge m 220 with h4 | h4
        · exact g 200 20 qB_200 (by omega) (by omega)
        · exact g 220 20 qB_220 (by omega) (by omega)
    · rcases Nat.lt_or_ge m 280 with h3 | h3
      · rcases Nat.lt_or_ge m 260 with h4 | h4
        · exact g 240 20 qB_240 (by omega) (by omega)
        · exact g 260 20 qB_260 (by omega) (by omega)
      · rcases Nat.lt_or_ge m 300 with h4 | h4
        · exact g 280 20 qB_280 (by omega) (by omega)
        · rcases Nat.lt_or_ge m 318 with h5 | h5
          · exact g 300 18 qB_300 (by omega) (by omega)
          · rw [show m = 318 by omega]; exact qB_318
theorem qBlk_ok {m : Nat} (hm : m < 319) (b : Nat) : qSeqOk m (PG.1 m b) = true := by
  have h := qB_all hm
  unfold qBlocksOk at h
  rw [List.all_eq_true] at h
  show qSeqOk m ((tB.getD m []).getD b []) = true
  rw [List.getD_eq_getElem?_getD]
  cases hq : (tB.getD m [])[b]? with
  | none => rfl
  | some es => exact h es (List.mem_of_getElem? hq)
theorem qW_sum (l : List Value) : (l.map fun v => v.category).sum = qW l := by
  induction l with
  | nil => rfl
  | cons v l ih =>
    rw [List.map_cons, List.sum_cons, ih]
    cases v <;> simp [qW, Value.category] <;> omega
theorem sd_split {α : Type} {st : List α} {n : Nat} {x : α} (hn : 0 < n) (h : st[n - 1]? = some x) : st = st.take (n - 1) ++ x :: st.drop n ∧ (st.take n).reverse = x :: (st.take (n - 1)).reverse := by
  obtain ⟨k, rfl⟩ : ∃ k, n = k + 1 := ⟨n - 1, by omega⟩
  rw [Nat.add_sub_cancel] at h ⊢
  have hl := (List.getElem?_eq_some_iff.mp h)
  refine ⟨?_, ?_⟩
  · conv => lhs; rw [← List.take_append_drop k st]
    congr 1
    rw [List.drop_eq_getElem_cons hl.1, hl.2]
  · rw [List.take_add_one, h]
    simp
/-- a method's contract, for one run of the small machine -/
def qQc (z : qE) (r : qRes) : Array Value → State → Outcome → State → Prop := fun _ _ o t => ∃ v, r.1 = .inl v ∧ o = .returned v ∧ qSim z r.2 t.heap
def qXc (z : qE) (r : qRes) : String → State → State → Prop := fun E _ t => ∃ En, r.1 = .inr En ∧ E = qEName En ∧ qSim z r.2 t.heap
def qMt (z : qE) (G : qG) (l : Launch) (m : Nat) (av : List Value) (h : qHp) (r : qRes) : Prop := vx_Met l (qY m) (qHead m :: GW) { frames := qHt m, locals := 35 * qHt m, cells := r.2.1 - h.1, slots := r.2.2.1 - h.2.1 } (fun a U => a = av.toArray ∧ qFx z G U ∧ qSim z h U.heap) (qQc z r) (qXc z r) (r.2.1 - h.1) (r.2.2.1 - h.2.1) (qAb z)
section SND5
variable {p : Program} {l : Launch} {e : Env} {R : Room} {s : State} {mid : MethodId} {args : Array Value} {below : List Frame} {meth : Method} {c : Code} {H : Heap} {locs : List Loc} {cells slots : Nat} {Q : State → Prop}
variable {pc : Nat} {ls : Array Slot} {z : qE} {G : qG} {h : qHp} {st rest : List Value} {m : Nat} {r : qRes}
theorem sd_callR {mc ms : Nat} {a : Array Value} (hr : vx_Run p l e R s mid args below meth c H locs cells slots mc ms (F0 mid pc ls st) rest (qQc z r a) (qXc z r) (qAb z)) (hl : ∀ q ∈ locs, z.1 ≤ q.base)
    (kx : ∀ (En : Nat) (ce : Cell) (q : Nat) (H1 : Heap) (locs1 : List Loc), r.1 = .inr En → qSim z r.2 H1 → (∀ q ∈ locs1, z.1 ≤ q.base) → H1[q]? = some ce → ce.vm = .none → s.vm.findClass (qEName En) = some ce.cls → vx_W p l e R s mid args below meth c H1 locs1 (cells + mc) (slots + ms) Q (F0 mid pc ls rest) q)
    (kk : ∀ (v : Option Value) (H1 : Heap) (locs1 : List Loc), r.1 = .inl v → qSim z r.2 H1 → (∀ q ∈ locs1, z.1 ≤ q.base) → W p l e R s mid args below meth c H1 locs1 (cells + mc) (slots + ms) Q (F0 mid (pc + 3) ls (v.toList ++ rest))) : W p l e R s mid args below meth c H locs cells slots Q (F0 mid pc ls st) := by
  intro T hT X
  have app : ∀ L : List Loc, (∀ q ∈ L, qAb z q.base) → ∀ q ∈ locs ++ L, z.1 ≤ q.base := fun L hL q hq => (List.mem_append.mp hq).elim (hl q) (hL q)
  rcases hr T hT X with ⟨v, st₀, t, T', L, h0, X', hL, e1, e2, ⟨v', hv1, hv2, hv3⟩, st⟩ | ⟨q, st₀, t, T', L, E, ce, h0, X', hL, e1, e2, ⟨En, hx1, hx2, hx3⟩, hce, hcv, hcl, st⟩
  · cases hv2
    obtain ⟨t2, a1, b1⟩ := kk v T'.heap (locs ++ L) hv1 (by rw [e1]; exact hv3) (app L hL) T' rfl X'
    exact ⟨t2, st t2 a1, b1⟩
  · subst hx2
    obtain ⟨t2, a1, b1⟩ := kx En ce q T'.heap (locs ++ L) hx1 (by rw [e1]; exact hx3) (app L hL) (by rw [e1]; exact hce) hcv hcl T' rfl X'
    exact ⟨t2, st.trans a1, b1⟩
theorem qHead_nil (hh : tH.getD m [] = []) : qHead m = .code (qY m) (qC m) (qLx m) (qRt m) := by
  unfold qHead
  rw [hh]
theorem qHead_cons (hh : tH.getD m [] ≠ []) : qHead m = .codeWith (qY m) (qC m) (qLx m) (qRt m) (qHh m) := by
  unfold qHead
  cases hq : tH.getD m [] with
  | nil => exact absurd hq hh
  | cons a b => rfl
/-- what the tables say of a method that is called -/
def qMP (m : Nat) : Prop := qHead m ∈ GW ∧ (qKd m = 1 → Cond.static (qY m) ∈ GW) ∧ (qKd m ≠ 1 → Cond.instanceMethod (qY m) ∈ GW) ∧ (qKd m = 0 → Cond.selects (qY m).cls (qY m) (qY m) ∈ GW) ∧ (qKd m = 2 → (qY m).name = "<init>" ∧ qRt m = none) ∧ Cond.initialized (qY m).cls ∈ GW ∧ ((qY m).cls ≠ "java/lang/invoke/MethodHandle" ∧ (qY m).cls ≠ "java/lang/invoke/VarHandle") ∧ plainFor (qY m) = true ∧ qLx m ≤ 16
theorem qM_p (hm : m < 318) : qMP m := by
  have h := qM_ok m hm
  unfold qMOk at h
  unfold qMP qKd
  cases hq : tK.getD m (9, 0, 0, 0, 0) with
  | mk kd w =>
    obtain ⟨w1, w2, w3, w4⟩ := w
    rw [hq] at h
    simp only [Bool.and_eq_true, decide_eq_true_eq] at h
    obtain ⟨⟨⟨⟨⟨⟨⟨⟨h1, h2⟩, h3⟩, h4⟩, h5⟩, h6⟩, h7⟩, h8⟩, -⟩ := h
    dsimp only
    refine ⟨qIsW_mem h1, fun k => ?_, fun k => ?_, fun k => ?_, fun k => ?_, qIsW_mem h5, h6, h7, h8⟩
    · rw [if_pos k] at h2; exact qIsW_mem h2
    · rw [if_neg k] at h2; exact qIsW_mem h2
    · rw [if_pos k] at h3; exact qIsW_mem h3
    · rw [if_pos k, Bool.and_eq_true, decide_eq_true_eq, decide_eq_true_eq] at h4; exact h4
end SND5
section SND6
variable {p : Program} {l : Launch} {e : Env} {R : Room} {s : State} {mid : MethodId} {args : Array Value} {below : List Frame} {meth : Method} {c : Code} {H : Heap} {locs : List Loc} {cells slots : Nat} {Q : State → Prop}
variable {pc : Nat} {ls : Array Slot} {z : qE} {G : qG} {h : qHp} {st rest : List Value} {m : Nat} {r : qRes}
theorem qRcv_0 {lr : List Nat} {h : qHp} {v : Option Value} (hr : qRcv 0 lr h v = true) : ∃ w ci r a, lr = w :: ci :: r ∧ v = some (.ref a) ∧ qIsO h ci a = true := by
  rcases lr with _ | ⟨w, _ | ⟨ci, r⟩⟩ <;> rcases v with _ | v <;> first | (cases v <;> first | exact ⟨w, ci, r, _, rfl, rfl, by simpa [qRcv] using hr⟩ | exact absurd hr (by simp [qRcv])) | exact absurd hr (by simp [qRcv])
theorem qRcv_1 {lr : List Nat} {h : qHp} {v : Option Value} (hr : qRcv 1 lr h v = true) : ∃ a, v = some (.ref a) := by
  rcases v with _ | v <;> first | (cases v <;> first | exact ⟨_, rfl⟩ | exact absurd hr (by simp [qRcv])) | exact absurd hr (by simp [qRcv])
theorem qRcv_2 {lr : List Nat} {h : qHp} {v : Option Value} (hr : qRcv 2 lr h v = true) : ∃ a, v = some (.ref a) := by
  rcases v with _ | v <;> first | (cases v <;> first | exact ⟨_, rfl⟩ | exact absurd hr (by simp [qRcv])) | exact absurd hr (by simp [qRcv])
def qIv (vi idx : Nat) : Instr := match vi with
  | 0 => .invokevirtual idx
  | 1 => .invokespecial idx
  | _ => .invokestatic idx
theorem sd_inv {vi idx k m' n' : Nat} {lr : List Nat} (C : qCx z G p l R s mid args meth c m) (hok : qInvOk m idx vi (k :: m' :: n' :: lr) = true) (hk : k ≠ 5 ∧ k ≠ 6 ∧ k ≠ 7 ∧ k ≠ 8) (hlen : n' ≤ st.length) (hw8 : qW (st.drop n') ≤ 8) (hrcv : qRcv k lr h st[n' - 1]? = true) (hS : qSim z h H) (hM : qMt z G l m' (st.take n').reverse h r)
    (hdg : decode (qC m) pc = .ok (qIv vi idx, 3)) (hls : ls.size = qLx m) (hc : cells + (r.2.1 - h.1) ≤ R.cells) (hs : slots + (r.2.2.1 - h.2.1) ≤ R.slots) :
    m' < 318 ∧ vx_Run p l e R s mid args below meth c H locs cells slots (r.2.1 - h.1) (r.2.2.1 - h.2.1) (F0 mid pc ls st) (st.drop n') (qQc z r (st.take n').reverse.toArray) (qXc z r) (qAb z) := by
  obtain ⟨hexec, hb, hml, hown, hts, hlocks, htab, hnm, hRf, hRl, hst, hfx⟩ := C
  unfold qInvOk at hok
  dsimp only at hok
  rw [if_neg hk.1, if_neg hk.2.1, if_neg hk.2.2.1, if_neg hk.2.2.2] at hok
  cases lr with
  | nil => cases hok
  | cons w lr =>
    dsimp only at hok
    simp only [Bool.and_eq_true, decide_eq_true_eq] at hok
    obtain ⟨⟨⟨⟨hm', hht⟩, hpar⟩, hlink⟩, hkind⟩ := hok
    refine ⟨hm', ?_⟩
    obtain ⟨M1, M2, M3, M4, M5, M6, M7, M8, M9⟩ := qM_p hm'
    have hF : qHt m' + 1 ≤ R.frames := by rw [hRf]; exact hht
    have hL : 8 + (qLx m' + 11) + 35 * qHt m' ≤ R.locals := by omega
    have hpar' : ∀ sig, parseMethodDescriptor (qY m').desc = some sig → n' = sig.parameters.length + (if vi = 2 then 0 else 1) := fun sig hsig => by
      rw [hsig] at hpar
      exact of_decide_eq_true hpar
    have hws := qJ_ws (s := s) (args := args) hts M1
    have hpc : FrameBlind (fun a U => a = (st.take n').reverse.toArray ∧ qFx z G U ∧ qSim z h U.heap) := fun a U g mk h => h
    have hW : ∀ g : JFrame, g.monitorRoom = 0 → 2 * g.monitorRoom + ((st.drop n').map fun v => v.category).sum ≤ 8 := fun g hg => by rw [hg, qW_sum]; omega
    have hP : ∀ U : State, U.heap = H → s.WarmedH U.vm → (st.take n').reverse.toArray = (st.take n').reverse.toArray ∧ qFx z G U ∧ qSim z h U.heap := fun U hU hWm => ⟨rfl, hfx.warm hWm, by rw [hU]; exact hS⟩
    by_cases k9 : k = 9
    · subst k9
      rw [if_neg (by decide), if_neg (by decide), if_neg (by decide)] at hkind
      rw [if_neg (by decide)] at hlink
      simp only [Bool.and_eq_true, beq_iff_eq, decide_eq_true_eq] at hkind
      obtain ⟨⟨⟨-, hvi⟩, hkd⟩, hth⟩ := hkind
      subst hvi
      have hcode : Cond.codeWith (qY m') (qC m') (qLx m') (qRt m') (qHh m') ∈ GW := by rw [← qHead_cons hth]; exact M1
      have hn' : ∀ sig, parseMethodDescriptor (qY m').desc = some sig → n' = sig.parameters.length := fun sig hsig => by have := hpar' sig hsig; rwa [if_pos rfl, Nat.add_zero] at this
      refine vx_runSX (hh := qHh m') (bytes := qC m') (maxL := qLx m') (ret := qRt m') (Ts := GW) (n := n') (own := (qY m).cls) (index := idx) (As := (st.take n').reverse) ⟨hexec, hb, hml, hown, hts⟩ hM ⟨⟨rfl, rfl, hF, hL, hws, by rw [qHead_cons hth]; exact List.mem_cons_self⟩, hts _ hcode, hts _ M6, M7, hn', hts _ (qIsW_mem hlink), hts _ (M2 hkd)⟩ ⟨hpc, hP⟩ rfl (by rw [List.length_reverse, List.length_take]; omega) hls (by rw [List.reverse_reverse, List.take_append_drop]) (hW _ rfl) hdg ⟨hc, hs⟩
    · have hth : tH.getD m' [] = [] := by
        by_cases k0 : k = 0
        · rw [if_pos k0] at hkind
          simp only [Bool.and_eq_true, decide_eq_true_eq] at hkind
          exact hkind.1.2
        · rw [if_neg k0] at hkind
          by_cases k1 : k = 1 ∨ k = 2
          · rw [if_pos k1] at hkind
            simp only [Bool.and_eq_true, decide_eq_true_eq] at hkind
            exact hkind.2
          · rw [if_neg k1] at hkind
            by_cases k3 : k = 3 ∨ k = 4
            · rw [if_pos k3] at hkind
              simp only [Bool.and_eq_true, decide_eq_true_eq] at hkind
              exact hkind.2
            · rw [if_neg k3] at hkind
              simp only [Bool.and_eq_true, beq_iff_eq] at hkind
              exact absurd hkind.1.1.1 k9
      have hcode : Cond.code (qY m') (qC m') (qLx m') (qRt m') ∈ GW := by rw [← qHead_nil hth]; exact M1
      have hcws : Cond.code (qY m') (qC m') (qLx m') (qRt m') ∈ qHead m' :: GW := by rw [qHead_nil hth]; exact List.mem_cons_self
      by_cases k0 : k = 0
      · subst k0
        rw [if_pos rfl] at hkind
        rw [if_neg (by decide)] at hlink
        simp only [Bool.and_eq_true, beq_iff_eq, decide_eq_true_eq] at hkind
        obtain ⟨⟨⟨hvi, hkd⟩, -⟩, hci, hcls⟩ := hkind
        subst hvi
        obtain ⟨w', ci, lr', b, hlr, hb9, hO9⟩ := qRcv_0 hrcv
        cases hlr
        · skip
          have hn0 : 0 < n' := by
            cases n' with
            | zero =>
              obtain ⟨sig, hsig⟩ : ∃ sig, parseMethodDescriptor (qY m').desc = some sig := by
                cases hq : parseMethodDescriptor (qY m').desc with
                | none => rw [hq] at hpar; cases hpar
                | some d => exact ⟨d, rfl⟩
              have := hpar' sig hsig
              rw [if_neg (by decide)] at this
              omega
            | succ n => omega
          obtain ⟨e1, e2⟩ := sd_split hn0 hb9
          rw [e2] at hM hP hpc
          unfold qIsO at hO9
          split at hO9
          · rename_i ci' fs hcell
            rw [beq_iff_eq] at hO9
            subst hO9
            have hci' : ci' < 11 := hci
            have hcls' : tCls.getD ci' "" = (qY m').cls := hcls
            obtain ⟨-, rr, hr1, cell, g1, g2, g3, -⟩ := hS.obj hci' hcell
            rw [qCl_at ci' hci'] at hr1
            cases hr1
            have hkn := (hfx.1.1 ci' _ (qCl_at ci' hci')).2.1
            rw [e2]
            refine vx_runV (bytes := qC m') (maxL := qLx m') (ret := qRt m') (C := (qY m').cls) (Ts := GW) (n := n' - 1) (own := (qY m).cls) (index := idx) (b := b) (As := (st.take (n' - 1)).reverse) ⟨hexec, hb, hml, hown, hts⟩ hM ⟨⟨rfl, rfl, hF, hL, hws, hcws, hts _ hcode, hts _ M6, M7, fun sig hsig => ?_, hts _ (qIsW_mem hlink)⟩, hts _ (M3 (by omega)), hts _ (M4 hkd)⟩ ⟨hpc, ⟨cell, g1, by rw [g3]; rfl, by rw [g2, ← hcls']; exact hkn⟩, hP⟩ rfl (by rw [List.length_reverse, List.length_take]; omega) hls (by rw [List.reverse_reverse]; exact e1) (hW _ rfl) hdg ⟨hc, hs⟩
            have := hpar' sig hsig
            rw [if_neg (by decide)] at this
            omega
          · cases hO9
      · rw [if_neg k0] at hkind
        by_cases k1 : k = 1 ∨ k = 2
        · rw [if_pos k1] at hkind
          simp only [Bool.and_eq_true, beq_iff_eq, decide_eq_true_eq] at hkind
          obtain ⟨⟨hvi, hkd⟩, -⟩ := hkind
          subst hvi
          obtain ⟨b, hb9⟩ : ∃ b, st[n' - 1]? = some (.ref b) := by
            rcases k1 with rfl | rfl
            · exact qRcv_1 hrcv
            · exact qRcv_2 hrcv
          have hn0 : 0 < n' := by
            cases n' with
            | zero =>
              obtain ⟨sig, hsig⟩ : ∃ sig, parseMethodDescriptor (qY m').desc = some sig := by
                cases hq : parseMethodDescriptor (qY m').desc with
                | none => rw [hq] at hpar; cases hpar
                | some d => exact ⟨d, rfl⟩
              have := hpar' sig hsig
              rw [if_neg (by decide)] at this
              omega
            | succ n => omega
          obtain ⟨e1, e2⟩ := sd_split hn0 hb9
          rw [e2] at hM hP hpc
          rw [e2]
          obtain ⟨M5a, M5b⟩ := M5 hkd
          rw [M5b] at hcode hcws
          have hn1 : ∀ sig, parseMethodDescriptor (qY m').desc = some sig → n' - 1 = sig.parameters.length := fun sig hsig => by
            have := hpar' sig hsig
            rw [if_neg (by decide)] at this
            omega
          rcases k1 with rfl | rfl
          · rw [if_neg (by decide)] at hlink
            exact vx_runI (bytes := qC m') (maxL := qLx m') (Ts := GW) (n := n' - 1) (own := (qY m).cls) (index := idx) (b := b) (As := (st.take (n' - 1)).reverse) ⟨hexec, hb, hml, hown, hts⟩ hM ⟨⟨rfl, rfl, hF, hL, hws, hcws, hts _ hcode, hts _ M6, M7, hn1, hts _ (qIsW_mem hlink)⟩, M5a, hts _ (M3 (by omega))⟩ ⟨hpc, hP⟩ rfl (by rw [List.length_reverse, List.length_take]; omega) hls (by rw [List.reverse_reverse]; exact e1) (hW _ rfl) hdg ⟨hc, hs⟩
          · rw [if_pos (by decide)] at hlink
            exact vx_runIN (bytes := qC m') (maxL := qLx m') (Ts := GW) (n := n' - 1) (own := (qY m).cls) (index := idx) (host := "EnvelopeBudget") (b := b) (As := (st.take (n' - 1)).reverse) ⟨hexec, hb, hml, hown, hts⟩ hM ⟨⟨⟨rfl, rfl, hF, hL, hws, hcws⟩, hts _ hcode, hts _ M6, M7, hn1, hts _ (qIsW_mem hlink)⟩, M5a, hts _ (M3 (by omega))⟩ ⟨hpc, hP⟩ rfl (by rw [List.length_reverse, List.length_take]; omega) hls (by rw [List.reverse_reverse]; exact e1) (hW _ rfl) hdg ⟨hc, hs⟩
        · rw [if_neg k1] at hkind
          have k3 : k = 3 ∨ k = 4 := by
            by_cases k3 : k = 3 ∨ k = 4
            · exact k3
            · rw [if_neg k3] at hkind
              simp only [Bool.and_eq_true, beq_iff_eq] at hkind
              exact absurd hkind.1.1.1 k9
          rw [if_pos k3] at hkind
          simp only [Bool.and_eq_true, beq_iff_eq, decide_eq_true_eq] at hkind
          obtain ⟨⟨hvi, hkd⟩, -⟩ := hkind
          subst hvi
          have hn1 : ∀ sig, parseMethodDescriptor (qY m').desc = some sig → n' = sig.parameters.length := fun sig hsig => by have := hpar' sig hsig; rwa [if_pos rfl, Nat.add_zero] at this
          rcases k3 with rfl | rfl
          · rw [if_neg (by decide)] at hlink
            exact vx_runS (bytes := qC m') (maxL := qLx m') (ret := qRt m') (Ts := GW) (n := n') (own := (qY m).cls) (index := idx) (As := (st.take n').reverse) ⟨hexec, hb, hml, hown, hts⟩ hM ⟨⟨rfl, rfl, hF, hL, hws, hcws, hts _ hcode, hts _ M6, M7, hn1, hts _ (qIsW_mem hlink)⟩, hts _ (M2 hkd)⟩ ⟨hpc, hP⟩ rfl (by rw [List.length_reverse, List.length_take]; omega) hls (by rw [List.reverse_reverse, List.take_append_drop]) (hW _ rfl) hdg ⟨hc, hs⟩
          · rw [if_pos (by decide)] at hlink
            exact vx_runSN (bytes := qC m') (maxL := qLx m') (ret := qRt m') (Ts := GW) (n := n') (own := (qY m).cls) (index := idx) (host := "EnvelopeBudget") (As := (st.take n').reverse) ⟨hexec, hb, hml, hown, hts⟩ hM ⟨⟨⟨rfl, rfl, hF, hL, hws, hcws⟩, hts _ hcode, hts _ M6, M7, hn1, hts _ (qIsW_mem hlink)⟩, hts _ (M2 hkd), trivial⟩ ⟨hpc, hP⟩ rfl (by rw [List.length_reverse, List.length_take]; omega) hls (by rw [List.reverse_reverse, List.take_append_drop]) (hW _ rfl) hdg ⟨hc, hs⟩
end SND6
