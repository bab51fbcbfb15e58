/-! ===== The small machine is sound, 3: the heap ===== -/
abbrev qTys (aC : Nat → ClassId) : List (ClassId × FieldType) := [(aC 0, .int), (aC 1, .long), (aC 2, .byte), (aC 3, .char), (aC 4, .boolean), (aC 5, .double), (aC 10, .object "EnvelopeBudget$Book"), (aC 12, .object "EnvelopeBudget$Envelope"), (aC 14, .object "EnvelopeBudget$Fund"), (aC 17, .object "EnvelopeBudget$Payment")]
/-- what stands: the first cell of ours, where the fields lie, the classes of arrays, the heap at the start, where the texts lie -/
abbrev qE : Type := Nat × va_G × (Nat → ClassId) × Heap × (Nat → Nat)
def qAt (z : qE) (a : Nat) (c : qAC) (H : Heap) : Prop := match c with
  | .inl (t, x) => z.1 ≤ a ∧ H[a]? = some (vp_cell (z.2.2.1 t) x)
  | .inr (ci, fs) => if ci = 99 then ∃ k, k < 14 ∧ a = z.2.2.2.2 k ∧ a < z.1 ∧ fs = qTx k else z.1 ≤ a ∧ va_at z.2.1 qCl (a, .inr (ci, fs)) H
def qSim (z : qE) (h : qHp) (H : Heap) : Prop := H.size = h.1 ∧ z.1 ≤ h.1 ∧ (∀ q : Nat, q < z.1 → H[q]? = z.2.2.2.1[q]?) ∧ ∀ (a : Nat) (c : qAC), h.2.2 a = some c → qAt z a c H
theorem qAt.kept {z : qE} {a : Nat} {c : qAC} {H H1 : Heap} (h : qAt z a c H) (hq : H1[a]? = H[a]?) : qAt z a c H1 := by
  rcases c with ⟨t, x⟩ | ⟨ci, fs⟩
  · exact ⟨h.1, hq.trans h.2⟩
  · unfold qAt at h ⊢
    dsimp only at h ⊢
    split at h
    · rename_i e; rw [if_pos e]; exact h
    · rename_i e; rw [if_neg e]; exact ⟨h.1, va_at.kept h.2 hq⟩
theorem qAt.lt {z : qE} {a : Nat} {c : qAC} {H : Heap} {n : Nat} (h : qAt z a c H) (hz : z.1 ≤ n) (hn : H.size = n) : a < n := by
  rcases c with ⟨t, x⟩ | ⟨ci, fs⟩
  · rw [← hn]; exact (Array.getElem?_eq_some_iff.mp h.2).1
  · unfold qAt at h
    dsimp only at h
    split at h
    · obtain ⟨k, -, -, h3, -⟩ := h; omega
    · rw [← hn]; exact va_at.lt h.2
theorem qSim.set {z : qE} {h : qHp} {H H1 : Heap} {a : Nat} {c : qAC} (hS : qSim z h H) (ha : z.1 ≤ a) (hc : qAt z a c H1) (hz : H1.size = H.size) (ho : ∀ q : Nat, q ≠ a → H1[q]? = H[q]?) : qSim z (qSetC h a c) H1 := by
  obtain ⟨h1, h2, h3, h4⟩ := hS
  refine ⟨hz.trans h1, h2, fun q hq => (ho q (by omega)).trans (h3 q hq), fun b d hb => ?_⟩
  unfold qSetC at hb
  dsimp only at hb
  split at hb
  · rename_i e; cases hb; rw [e]; exact hc
  · rename_i e; exact (h4 b d hb).kept (ho b e)
theorem qSim.new {z : qE} {h : qHp} {H H1 : Heap} {c : qAC} {n : Nat} (hS : qSim z h H) (hc : qAt z h.1 c H1) (hz : H1.size = H.size + 1) (ho : ∀ q : Nat, q < H.size → H1[q]? = H[q]?) : qSim z (qNewC h c n) H1 := by
  obtain ⟨h1, h2, h3, h4⟩ := hS
  refine ⟨by rw [hz, h1]; rfl, Nat.le_succ_of_le h2, fun q hq => (ho q (by omega)).trans (h3 q hq), fun b d hb => ?_⟩
  unfold qNewC at hb
  dsimp only at hb
  split at hb
  · rename_i e; cases hb; rw [e]; exact hc
  · exact (h4 b d hb).kept (ho b (by rw [h1]; exact (h4 b d hb).lt h2 h1))
/-- the classes' data -/
theorem qCl_at : ∀ ci, ci < 11 → qCl[ci]? = some (tCls.getD ci "", tFl ci, tN.getD ci 0)
  | 0, _ => rfl
  | 1, _ => rfl
  | 2, _ => rfl
  | 3, _ => rfl
  | 4, _ => rfl
  | 5, _ => rfl
  | 6, _ => rfl
  | 7, _ => rfl
  | 8, _ => rfl
  | 9, _ => rfl
  | 10, _ => rfl
  | n + 11, h => absurd h (by omega)
def qClsP (ci : Nat) : Prop := (∀ w ∈ u_ws (tCls.getD ci "") (tFl ci) (tN.getD ci 0), w ∈ GW) ∧ (∀ k, k < tN.getD ci 0 → parseFieldDescriptor (tFl ci k).2.2.1 = some (tTy ci k)) ∧ (∀ a, a < tN.getD ci 0 → ∀ b, b < tN.getD ci 0 → a ≠ b → (tFl ci a).2.1 ≠ (tFl ci b).2.1) ∧ (∀ k, k < tN.getD ci 0 → (tFl ci k).1 = tCls.getD ci "") ∧ Cond.instantiable (tCls.getD ci "") (tN.getD ci 0) ∈ GW ∧ Cond.initialized (tCls.getD ci "") ∈ GW
theorem qCls_p {ci : Nat} (h : ci < 11) : qClsP ci := by
  have hk := qCls_ok ci h
  unfold qClsOk at hk
  rw [qCl_at ci h] at hk
  dsimp only at hk
  simp only [Bool.and_eq_true] at hk
  obtain ⟨⟨⟨⟨⟨-, h1⟩, h2⟩, h3⟩, -⟩, -⟩ := hk
  rw [List.all_eq_true] at h1
  have g : ∀ k, k < tN.getD ci 0 → _ := fun k hk => h1 k (List.mem_range.mpr hk)
  simp only [Bool.and_eq_true, decide_eq_true_eq, List.all_eq_true, List.mem_range, Bool.or_eq_true] at g
  refine ⟨fun w hw => ?_, fun k hk => (g k hk).1.1.2, fun a ha b hb hab => ?_, fun k hk => (g k hk).1.2, qIsW_mem h2, qIsW_mem h3⟩
  · obtain ⟨k, hk, rfl⟩ := List.mem_map.mp hw
    exact qIsW_mem (g k (List.mem_range.mp hk)).1.1.1
  · rcases (g a ha).2 b hb with e | e
    · exact absurd e.symm hab
    · exact fun q => e q.symm
section SND3
variable {p : Program} {l : Launch} {e : Env} {R : Room} {s : State} {m : MethodId} {args : Array Value} {below : List Frame} {meth : Method} {c : Code} {H : Heap} {locs : List Loc} {cells slots : Nat} {Q : State → Prop}
variable {cc : ByteArray} {pc : Nat} {ls : Array Slot} {z : qE} {G : qG} {h h' : qHp} {st st' : List Value} {lk : List Nat} {own : String}
/-- what an instruction over the heap stands on -/
def qB3 (z : qE) (p : Program) (c : Code) (cc : ByteArray) (s : State) (args : Array Value) (own : String) (m : MethodId) (h : qHp) (H : Heap) (locs : List Loc) : Prop :=
  p.tables.exec = Jvm.exec ∧ c.code = cc ∧ (∀ w ∈ GW, w.before args s = true) ∧ s.vm.findClass own = some m.cls ∧ va_K z.2.1 qCl (qTys z.2.2.1) s ∧ qSim z h H ∧ ∀ q ∈ locs, z.1 ≤ q.base
/-- and what goes on behind it -/
def qC3 (z : qE) (p : Program) (l : Launch) (e : Env) (R : Room) (s : State) (m : MethodId) (args : Array Value) (below : List Frame) (meth : Method) (c : Code) (cells slots : Nat) (Q : State → Prop) (ls : Array Slot) (h h' : qHp) (st' : List Value) (pc' : Nat) : Prop :=
  ∀ (H1 : Heap) (locs1 : List Loc), qSim z h' H1 → (∀ q ∈ locs1, z.1 ≤ q.base) → W p l e R s m args below meth c H1 locs1 (cells + (h'.1 - h.1)) (slots + (h'.2.1 - h.2.1)) Q (F0 m pc' ls st')
theorem qC3.same {H1 : Heap} {locs1 : List Loc} {pc' : Nat} (kk : qC3 z p l e R s m args below meth c cells slots Q ls h h' st' pc') (h1 : h'.1 = h.1) (h2 : h'.2.1 = h.2.1) (hS : qSim z h' H1) (hl : ∀ q ∈ locs1, z.1 ≤ q.base) : W p l e R s m args below meth c H1 locs1 cells slots Q (F0 m pc' ls st') := by
  have := kk H1 locs1 hS hl
  rw [h1, h2, Nat.sub_self, Nat.sub_self] at this
  exact this
theorem sd_locs {locs : List Loc} {n a k : Nat} (hl : ∀ q ∈ locs, n ≤ q.base) (ha : n ≤ a) : ∀ q ∈ locs ++ [(⟨a, k⟩ : Loc)], n ≤ q.base := fun q hq => by
  rcases List.mem_append.mp hq with h | h
  · exact hl q h
  · rw [List.mem_singleton.mp h]; exact ha
theorem qFld_p {idx w ci k : Nat} {r : List Nat} (hf : qFldOk own idx (w :: ci :: k :: r) = true) : ci < 11 ∧ k < tN.getD ci 0 ∧ Cond.fieldLink own idx (tFl ci k).1 (tFl ci k).2.1 (tFl ci k).2.2.1 ∈ GW := by
  unfold qFldOk at hf
  simp only [Bool.and_eq_true, decide_eq_true_eq] at hf
  exact ⟨hf.1.1, hf.1.2, qIsW_mem hf.2⟩
/-- an object as the heap has it -/
theorem qSim.obj {a ci : Nat} {fs : List Value} (hS : qSim z h H) (hc : ci < 11) (hh : h.2.2 a = some (.inr (ci, fs))) : z.1 ≤ a ∧ va_at z.2.1 qCl (a, .inr (ci, fs)) H := by
  have := hS.2.2.2 a _ hh
  unfold qAt at this
  dsimp only at this
  rwa [if_neg (by omega)] at this
theorem qSim.arr {a t : Nat} {x : vp_A} (hS : qSim z h H) (hh : h.2.2 a = some (.inl (t, x))) : z.1 ≤ a ∧ H[a]? = some (vp_cell (z.2.2.1 t) x) := hS.2.2.2 a _ hh
theorem va_P1 {D : va_G} {cl : List vw_C} {x : Nat × va_E} {H : Heap} (hx : va_at D cl x H) : va_P D cl [x] H := fun k q hk => by
  match k, hk with
  | 0, hk => cases hk; exact hx
  | k + 1, hk => cases hk
theorem sd_getf {idx : Nat} (B : qB3 z p c cc s args own m h H locs) (hdg : decode cc pc = .ok (.getfield idx, 3)) (hf : qFldOk own idx lk = true) (hm : qMem G (.getfield idx) lk st h = some (st', h'))
    (kk : qC3 z p l e R s m args below meth c cells slots Q ls h h' st' (pc + 3)) : W p l e R s m args below meth c H locs cells slots Q (F0 m pc ls st) := by
  obtain ⟨hexec, hb, hts, hown, hK, hS, hl⟩ := B
  dsimp only [qMem] at hm
  split at hm
  · rename_i w ci k r a rest
    obtain ⟨hci, hk, hlk⟩ := qFld_p hf
    unfold qGetF at hm
    split at hm
    · rename_i v hv
      cases hm
      split at hv
      · rename_i ci' fs hh
        split at hv
        · rename_i e; subst e
          have ho := hS.obj hci hh
          obtain ⟨q1, -, -, q4, -⟩ := qCls_p hci
          exact va_get hexec hb hts q1 hown hK (va_P1 ho.2) 0 rfl (qCl_at ci' hci) k hk (hts _ hlk) (fun x hx => hx) hv hdg (kk.same rfl rfl hS hl)
        · cases hv
      · cases hv
    · cases hm
  · cases hm
theorem qFit_p {ty : FieldType} {t : Nat} {v : Value} (ht : (match ty with
      | .int => t == 0
      | .long => t == 1
      | .object _ => t == 2
      | .array _ => t == 2
      | _ => false) = true) (hv : qFit t v = true) : narrow ty v = v ∧ fits ty v = true := by
  unfold qFit at hv
  split at hv <;> first | cases hv | skip
  all_goals (rw [beq_iff_eq] at hv; subst hv; split at ht <;> first | exact ⟨rfl, rfl⟩ | cases ht)
theorem sd_putf {mm idx : Nat} (B : qB3 z p c cc s args (qY mm).cls m h H locs) (hnm : (qY mm).name = "<init>" → meth.name = "<init>") (hdg : decode cc pc = .ok (.putfield idx, 3)) (hf : qFldOk (qY mm).cls idx lk = true) (hp : qPutOk mm lk = true) (hm : qMem G (.putfield idx) lk st h = some (st', h'))
    (kk : qC3 z p l e R s m args below meth c cells slots Q ls h h' st' (pc + 3)) : W p l e R s m args below meth c H locs cells slots Q (F0 m pc ls st) := by
  obtain ⟨hexec, hb, hts, hown, hK, hS, hl⟩ := B
  dsimp only [qMem] at hm
  split at hm
  · rename_i w ci k t r v a rest
    obtain ⟨hci, hk, hlk⟩ := qFld_p hf
    split at hm
    · rename_i hP hv
      cases hm
      unfold qPutF at hv
      split at hv
      · rename_i ci' fs hh
        split at hv
        · rename_i e
          obtain ⟨e, hkl, hft⟩ := e
          subst e
          cases hv
          have ho := hS.obj hci hh
          obtain ⟨q1, q2, q3, q4, -⟩ := qCls_p hci
          unfold qPutOk at hp
          rw [Bool.and_eq_true] at hp
          obtain ⟨hty, hfi⟩ := hp
          obtain ⟨hn, hfit⟩ := qFit_p hty hft
          have hap := va_apart (own := (qY mm).cls) hts q1 (tTy ci') q2 q3 hK (qCl_at ci' hci)
          obtain ⟨rr, h1, cell, g1, g2, g3, g4⟩ := ho.2
          have hr : rr = (tCls.getD ci' "", tFl ci', tN.getD ci' 0) := Option.some.inj (h1.symm.trans (qCl_at ci' hci))
          subst hr
          obtain ⟨hSl, hfc, kC, hkC, hkind⟩ := hK.1 ci' _ (qCl_at ci' hci)
          obtain ⟨cf, kf, fi, f, hi, hsl⟩ := hSl k hk
          have hlay := hts _ (q1 _ (u_in_lay hk))
          have hst := (u_facts hfc hkC (u_lays hts q1 hk) hi).1
          have fin : ∀ H1 : Heap, H1[a]? = some (cell.setSlot f.slot v) → H1.size = H.size → (∀ q : Nat, q ≠ a → H1[q]? = H[q]?) → qSim z (qSetC h a (.inr (ci', fs.set k v))) H1 := fun H1 e1 e2 e3 => by
            refine hS.set ho.1 ?_ e2 e3
            unfold qAt
            dsimp only
            rw [if_neg (by omega)]
            refine ⟨ho.1, _, qCl_at ci' hci, t_OB.to (V := updV (vp_V fs) k v) ⟨_, e1, g2, g3, ?_⟩ (fun j _ => vp_updV_set hkl v j)⟩
            rw [hsl]
            exact t_set g4 hap hk v
          unfold u_lay at hlay
          by_cases hfn : (tFl ci' k).2.2.2 = true
          · rw [if_pos hfn] at hlay
            rw [hfn] at hfi
            simp only [Bool.not_true, Bool.false_or, Bool.and_eq_true, decide_eq_true_eq] at hfi
            have hcf : m.cls = cf := by
              obtain ⟨_, _, c', _, _, _, -, -, hf', -, -, -, hown2, -⟩ := Cond.laysFinal_spec hlay
              have e1 : c' = cf := by have := hi.symm.trans hf'; simp at this; exact this.1.symm
              rw [hfi.2] at hown2
              rw [← e1]; exact Option.some.inj (hown.symm.trans hown2)
            have h6 := u_fits hfc hkC hkind (Or.inr hlay) hi (q2 k hk) hn hfit
            exact W.putFinK hexec hb hown (hts _ hlk) hi hst hcf (hnm hfi.1) (by rw [g2]; exact h6) g1 g3 (by rw [hsl]; exact k2_hasslot (g4 k hk)) rfl rfl hdg fun H1 e1 e2 e3 => kk.same rfl rfl (fin H1 e1 e2 e3) (sd_locs hl ho.1)
          · rw [if_neg hfn] at hlay
            have h6 := u_store hfc hkC hkind hlay hi (q2 k hk) hn hfit
            exact W.putK hexec hb (f := f) ⟨hown, hts _ hlk, ⟨_, _, _, hi⟩, hst⟩ (by rw [g2]; exact h6) g1 g3 (by rw [hsl]; exact k2_hasslot (g4 k hk)) rfl rfl hdg fun H1 e1 e2 e3 => kk.same rfl rfl (fin H1 e1 e2 e3) (sd_locs hl ho.1)
        · cases hv
      · cases hv
    · cases hm
  · cases hm
theorem qIn_in {i : Int32} {n : Nat} (h : qIn i n = true) : vp_in i n := by
  unfold qIn at h
  simp only [Bool.not_eq_true', Bool.or_eq_false_iff, decide_eq_false_iff_not] at h
  exact fun q => q.elim h.1 h.2
theorem sd_lald (B : qB3 z p c cc s args own m h H locs) (hdg : decode cc pc = .ok (.laload, 1)) (hm : qMem G (.laload) lk st h = some (st', h'))
    (kk : qC3 z p l e R s m args below meth c cells slots Q ls h h' st' (pc + 1)) : W p l e R s m args below meth c H locs cells slots Q (F0 m pc ls st) := by
  obtain ⟨hexec, hb, hts, hown, hK, hS, hl⟩ := B
  dsimp only [qMem] at hm
  split at hm
  · rename_i i a rest
    split at hm
    · rename_i v hv
      cases hm
      unfold qLdL at hv
      split at hv
      · rename_i n f hh
        split at hv
        · rename_i hi
          cases hv
          exact va_lald hexec hb hK (va_P1 (x := (a, .inl (_, _))) (hS.arr hh).2) 0 1 rfl rfl (qIn_in hi) hdg (kk.same rfl rfl hS hl)
        · cases hv
      · cases hv
    · cases hm
  · cases hm
theorem sd_dald (B : qB3 z p c cc s args own m h H locs) (hdg : decode cc pc = .ok (.daload, 1)) (hm : qMem G (.daload) lk st h = some (st', h'))
    (kk : qC3 z p l e R s m args below meth c cells slots Q ls h h' st' (pc + 1)) : W p l e R s m args below meth c H locs cells slots Q (F0 m pc ls st) := by
  obtain ⟨hexec, hb, hts, hown, hK, hS, hl⟩ := B
  dsimp only [qMem] at hm
  split at hm
  · rename_i i a rest
    split at hm
    · rename_i v hv
      cases hm
      unfold qLdD at hv
      split at hv
      · rename_i n f hh
        split at hv
        · rename_i hi
          cases hv
          exact va_dald hexec hb hK (va_P1 (x := (a, .inl (_, _))) (hS.arr hh).2) 0 5 rfl rfl (qIn_in hi) hdg (kk.same rfl rfl hS hl)
        · cases hv
      · cases hv
    · cases hm
  · cases hm
theorem sd_cald (B : qB3 z p c cc s args own m h H locs) (hdg : decode cc pc = .ok (.caload, 1)) (hm : qMem G (.caload) lk st h = some (st', h'))
    (kk : qC3 z p l e R s m args below meth c cells slots Q ls h h' st' (pc + 1)) : W p l e R s m args below meth c H locs cells slots Q (F0 m pc ls st) := by
  obtain ⟨hexec, hb, hts, hown, hK, hS, hl⟩ := B
  dsimp only [qMem] at hm
  split at hm
  · rename_i i a rest
    split at hm
    · rename_i v hv
      cases hm
      unfold qLdI at hv
      split at hv
      · rename_i t' n f hh
        split at hv
        · rename_i hi
          obtain ⟨ht, hi⟩ := hi
          subst ht
          cases hv
          exact va_cald hexec hb hK (va_P1 (x := (a, .inl (_, _))) (hS.arr hh).2) 0 3 rfl rfl (qIn_in hi) hdg (kk.same rfl rfl hS hl)
        · cases hv
      · cases hv
    · cases hm
  · cases hm
theorem sd_bald (B : qB3 z p c cc s args own m h H locs) (hdg : decode cc pc = .ok (.baload, 1)) (hk : (match lk with
      | g :: _ => g == 2 || g == 4
      | _ => false) = true) (hm : qMem G (.baload) lk st h = some (st', h'))
    (kk : qC3 z p l e R s m args below meth c cells slots Q ls h h' st' (pc + 1)) : W p l e R s m args below meth c H locs cells slots Q (F0 m pc ls st) := by
  obtain ⟨hexec, hb, hts, hown, hK, hS, hl⟩ := B
  dsimp only [qMem] at hm
  split at hm
  · rename_i g r i a rest
    split at hm
    · rename_i v hv
      cases hm
      unfold qLdI at hv
      split at hv
      · rename_i t' n f hh
        split at hv
        · rename_i hi
          obtain ⟨ht, hi⟩ := hi
          subst ht
          cases hv
          simp only [Bool.or_eq_true, beq_iff_eq] at hk
          rcases hk with hk | hk
          · subst hk
            exact va_bald hexec hb hK (va_P1 (x := (a, .inl (_, _))) (hS.arr hh).2) 0 2 rfl rfl (qIn_in hi) hdg (kk.same rfl rfl hS hl)
          · subst hk
            exact va_zald hexec hb hK (va_P1 (x := (a, .inl (_, _))) (hS.arr hh).2) 0 4 rfl rfl (qIn_in hi) hdg (kk.same rfl rfl hS hl)
        · cases hv
      · cases hv
    · cases hm
  · cases hm
theorem qRef_p {t : Nat} (h : qRefTag t = true) : ∃ k : Nat, (∀ aC : Nat → ClassId, (qTys aC)[k]? = some (aC t, FieldType.object (tCls.getD (t - 10) ""))) := by
  unfold qRefTag at h
  simp only [Bool.or_eq_true, beq_iff_eq] at h
  rcases h with ((h | h) | h) | h <;> subst h
  · exact ⟨6, fun _ => rfl⟩
  · exact ⟨7, fun _ => rfl⟩
  · exact ⟨8, fun _ => rfl⟩
  · exact ⟨9, fun _ => rfl⟩
theorem sd_aald (B : qB3 z p c cc s args own m h H locs) (hdg : decode cc pc = .ok (.aaload, 1)) (hk : (match lk with
      | g :: _ => qRefTag g
      | _ => false) = true) (hm : qMem G (.aaload) lk st h = some (st', h'))
    (kk : qC3 z p l e R s m args below meth c cells slots Q ls h h' st' (pc + 1)) : W p l e R s m args below meth c H locs cells slots Q (F0 m pc ls st) := by
  obtain ⟨hexec, hb, hts, hown, hK, hS, hl⟩ := B
  dsimp only [qMem] at hm
  split at hm
  · rename_i g r i a rest
    split at hm
    · rename_i v hv
      cases hm
      unfold qLdA at hv
      split at hv
      · rename_i t' n f hh
        split at hv
        · rename_i hi
          obtain ⟨ht, hi⟩ := hi
          subst ht
          cases hv
          obtain ⟨t0, ht0⟩ := qRef_p hk
          exact va_aldq hexec hb hK (va_P1 (x := (a, .inl (_, _))) (hS.arr hh).2) 0 t0 rfl (ht0 _) (qIn_in hi) hdg (kk.same rfl rfl hS hl)
        · cases hv
      · cases hv
    · cases hm
  · cases hm
theorem sd_S (hS : qSim z h H) (hz : z.2.2.2.1.size = z.1) (hl : ∀ q ∈ locs, z.1 ≤ q.base) : va_S (fun q => z.1 ≤ q) z.2.2.2.1 H locs := ⟨by rw [hS.1, hz]; exact hS.2.1, fun q h1 h2 => hS.2.2.1 q (by omega), hl⟩
theorem sd_iald (B : qB3 z p c cc s args own m h H locs) (hX : G.1 < z.1 ∧ va_X G.1 G.2.1 G.2.2.1 s z.2.2.2.1 ∧ z.2.2.2.1.size = z.1) (hdg : decode cc pc = .ok (.iaload, 1)) (hm : qMem G (.iaload) lk st h = some (st', h'))
    (kk : qC3 z p l e R s m args below meth c cells slots Q ls h h' st' (pc + 1)) : W p l e R s m args below meth c H locs cells slots Q (F0 m pc ls st) := by
  obtain ⟨hexec, hb, hts, hown, hK, hS, hl⟩ := B
  dsimp only [qMem] at hm
  split at hm
  · rename_i i a rest
    split at hm
    · rename_i v hv
      cases hm
      unfold qLdI at hv
      split at hv
      · rename_i t' n f hh
        split at hv
        · rename_i hi
          obtain ⟨ht, hi⟩ := hi
          subst ht
          cases hv
          exact va_iald hexec hb hK (va_P1 (x := (a, .inl (_, _))) (hS.arr hh).2) 0 0 rfl rfl (qIn_in hi) hdg (kk.same rfl rfl hS hl)
        · cases hv
      · cases hv
    · split at hm
      · rename_i hi
        obtain ⟨ha, hi, -⟩ := hi
        subst ha
        cases hm
        exact va_sld (A := fun q => z.1 ≤ q) (H0 := z.2.2.2.1) hexec hb hX.2.1 (by rw [hX.2.2]; exact hX.1) (fun q => by have := hX.1; omega) (sd_S hS hX.2.2 hl) (qIn_in hi) hdg (kk.same rfl rfl hS hl)
      · cases hm
  · cases hm
theorem sd_last (B : qB3 z p c cc s args own m h H locs) (hdg : decode cc pc = .ok (.lastore, 1)) (hm : qMem G (.lastore) lk st h = some (st', h'))
    (kk : qC3 z p l e R s m args below meth c cells slots Q ls h h' st' (pc + 1)) : W p l e R s m args below meth c H locs cells slots Q (F0 m pc ls st) := by
  obtain ⟨hexec, hb, hts, hown, hK, hS, hl⟩ := B
  dsimp only [qMem] at hm
  split at hm
  · rename_i x i a rest
    split at hm
    · rename_i hP hv
      cases hm
      unfold qStL at hv
      split at hv
      · rename_i n f hh
        split at hv
        · rename_i hi
          cases hv
          · skip
            refine W.last hexec hb (hS.arr hh).2 ((hK.2 1 _ rfl).1 n (fun j => .long (f j))) (fun q => by cases q) (by show ¬ (i < 0 ∨ (arrV _ _ _).slots.size ≤ _); rw [arrV_size]; exact qIn_in hi) rfl rfl hdg fun H1 e1 z1 oq => ?_
            refine kk.same rfl rfl (hS.set (hS.arr hh).1 ⟨(hS.arr hh).1, ?_⟩ z1 oq) (sd_locs hl (hS.arr hh).1)
            rw [e1]
            rw [vp_cell_l, vp_cell_l, arrV_store]
            congr 2
            funext q
            by_cases hq : q = i.toNatClampNeg
            · subst hq
              simp [updV, vp_updL]
            · simp [updV, vp_updL, hq]
        · cases hv
      · cases hv
    · cases hm
  · cases hm
theorem sd_dast (B : qB3 z p c cc s args own m h H locs) (hdg : decode cc pc = .ok (.dastore, 1)) (hm : qMem G (.dastore) lk st h = some (st', h'))
    (kk : qC3 z p l e R s m args below meth c cells slots Q ls h h' st' (pc + 1)) : W p l e R s m args below meth c H locs cells slots Q (F0 m pc ls st) := by
  obtain ⟨hexec, hb, hts, hown, hK, hS, hl⟩ := B
  dsimp only [qMem] at hm
  split at hm
  · rename_i x i a rest
    split at hm
    · rename_i hP hv
      cases hm
      unfold qStD at hv
      split at hv
      · rename_i n f hh
        split at hv
        · rename_i hi
          cases hv
          · skip
            refine W.dast hexec hb (hS.arr hh).2 ((hK.2 5 _ rfl).1 n (fun j => .double (f j))) (fun q => by cases q) (by show ¬ (i < 0 ∨ (arrV _ _ _).slots.size ≤ _); rw [arrV_size]; exact qIn_in hi) rfl rfl hdg fun H1 e1 z1 oq => ?_
            refine kk.same rfl rfl (hS.set (hS.arr hh).1 ⟨(hS.arr hh).1, ?_⟩ z1 oq) (sd_locs hl (hS.arr hh).1)
            rw [e1]
            rw [vp_cell_d, vp_cell_d, arrV_store]
            congr 2
            funext q
            by_cases hq : q = i.toNatClampNeg
            · subst hq
              simp [updV, vf_upd]
            · simp [updV, vf_upd, hq]
        · cases hv
      · cases hv
    · cases hm
  · cases hm
theorem sd_iast (B : qB3 z p c cc s args own m h H locs) (hdg : decode cc pc = .ok (.iastore, 1)) (hm : qMem G (.iastore) lk st h = some (st', h'))
    (kk : qC3 z p l e R s m args below meth c cells slots Q ls h h' st' (pc + 1)) : W p l e R s m args below meth c H locs cells slots Q (F0 m pc ls st) := by
  obtain ⟨hexec, hb, hts, hown, hK, hS, hl⟩ := B
  dsimp only [qMem] at hm
  split at hm
  · rename_i x i a rest
    split at hm
    · rename_i hP hv
      cases hm
      unfold qStI at hv
      split at hv
      · rename_i t' n f hh
        split at hv
        · rename_i hi
          obtain ⟨ht, hi⟩ := hi
          subst ht
          cases hv
          · skip
            refine W.iast hexec hb (hS.arr hh).2 ((hK.2 0 _ rfl).1 n (fun j => .int (f j))) (fun q => by cases q) (by show ¬ (i < 0 ∨ (arrV _ _ _).slots.size ≤ _); rw [arrV_size]; exact qIn_in hi) rfl rfl hdg fun H1 e1 z1 oq => ?_
            refine kk.same rfl rfl (hS.set (hS.arr hh).1 ⟨(hS.arr hh).1, ?_⟩ z1 oq) (sd_locs hl (hS.arr hh).1)
            rw [e1]
            rw [vp_cell_i, vp_cell_i, arrV_store]
            congr 2
            funext q
            by_cases hq : q = i.toNatClampNeg
            · subst hq
              simp [updV, upd, narrow]
            · simp [updV, upd, narrow, hq]
        · cases hv
      · cases hv
    · cases hm
  · cases hm
theorem sd_cast (B : qB3 z p c cc s args own m h H locs) (hdg : decode cc pc = .ok (.castore, 1)) (hm : qMem G (.castore) lk st h = some (st', h'))
    (kk : qC3 z p l e R s m args below meth c cells slots Q ls h h' st' (pc + 1)) : W p l e R s m args below meth c H locs cells slots Q (F0 m pc ls st) := by
  obtain ⟨hexec, hb, hts, hown, hK, hS, hl⟩ := B
  dsimp only [qMem] at hm
  split at hm
  · rename_i x i a rest
    split at hm
    · rename_i hP hv
      cases hm
      unfold qStI at hv
      split at hv
      · rename_i t' n f hh
        split at hv
        · rename_i hi
          obtain ⟨ht, hi⟩ := hi
          subst ht
          cases hv
          · skip
            refine W.cast hexec hb (hS.arr hh).2 ((hK.2 3 _ rfl).1 n (fun j => .int (f j))) (fun q => by cases q) (by show ¬ (i < 0 ∨ (arrV _ _ _).slots.size ≤ _); rw [arrV_size]; exact qIn_in hi) rfl rfl hdg fun H1 e1 z1 oq => ?_
            refine kk.same rfl rfl (hS.set (hS.arr hh).1 ⟨(hS.arr hh).1, ?_⟩ z1 oq) (sd_locs hl (hS.arr hh).1)
            rw [e1]
            rw [vp_cell_i, vp_cell_i, arrV_store]
            congr 2
            funext q
            by_cases hq : q = i.toNatClampNeg
            · subst hq
              simp [updV, upd, narrow]
              try rfl
            · simp [updV, upd, narrow, hq]
        · cases hv
      · cases hv
    · cases hm
  · cases hm
theorem sd_bast (B : qB3 z p c cc s args own m h H locs) (hdg : decode cc pc = .ok (.bastore, 1)) (hk : (match lk with
      | g :: _ => g == 2 || g == 4
      | _ => false) = true) (hm : qMem G (.bastore) lk st h = some (st', h'))
    (kk : qC3 z p l e R s m args below meth c cells slots Q ls h h' st' (pc + 1)) : W p l e R s m args below meth c H locs cells slots Q (F0 m pc ls st) := by
  obtain ⟨hexec, hb, hts, hown, hK, hS, hl⟩ := B
  dsimp only [qMem] at hm
  split at hm
  · rename_i g r x i a rest
    split at hm
    · rename_i hP hv
      cases hm
      unfold qStI at hv
      split at hv
      · rename_i t' n f hh
        split at hv
        · rename_i hi
          obtain ⟨ht, hi⟩ := hi
          subst ht
          cases hv
          simp only [Bool.or_eq_true, beq_iff_eq] at hk
          rcases hk with hk | hk
          · subst hk
            refine W.bast hexec hb (hS.arr hh).2 ((hK.2 2 _ rfl).1 n (fun j => .int (f j))) (fun q => by cases q) (by show ¬ (i < 0 ∨ (arrV _ _ _).slots.size ≤ _); rw [arrV_size]; exact qIn_in hi) rfl rfl hdg fun H1 e1 z1 oq => ?_
            refine kk.same rfl rfl (hS.set (hS.arr hh).1 ⟨(hS.arr hh).1, ?_⟩ z1 oq) (sd_locs hl (hS.arr hh).1)
            rw [e1]
            rw [vp_cell_i, vp_cell_i, arrV_store]
            congr 2
            funext q
            by_cases hq : q = i.toNatClampNeg
            · subst hq
              simp [updV, upd, narrow]
              try rfl
            · simp [updV, upd, narrow, hq]
          · subst hk
            refine W.zast hexec hb (hS.arr hh).2 ((hK.2 4 _ rfl).1 n (fun j => .int (f j))) (fun q => by cases q) (by show ¬ (i < 0 ∨ (arrV _ _ _).slots.size ≤ _); rw [arrV_size]; exact qIn_in hi) rfl rfl hdg fun H1 e1 z1 oq => ?_
            refine kk.same rfl rfl (hS.set (hS.arr hh).1 ⟨(hS.arr hh).1, ?_⟩ z1 oq) (sd_locs hl (hS.arr hh).1)
            rw [e1]
            rw [vp_cell_i, vp_cell_i, arrV_store]
            congr 2
            funext q
            by_cases hq : q = i.toNatClampNeg
            · subst hq
              simp [updV, upd, narrow]
              try rfl
            · simp [updV, upd, narrow, hq]
        · cases hv
      · cases hv
    · cases hm
  · cases hm
theorem sd_aast (B : qB3 z p c cc s args own m h H locs) (hdg : decode cc pc = .ok (.aastore, 1)) (hk : (match lk with
      | g :: _ => qRefTag g
      | _ => false) = true) (hm : qMem G (.aastore) lk st h = some (st', h'))
    (kk : qC3 z p l e R s m args below meth c cells slots Q ls h h' st' (pc + 1)) : W p l e R s m args below meth c H locs cells slots Q (F0 m pc ls st) := by
  obtain ⟨hexec, hb, hts, hown, hK, hS, hl⟩ := B
  dsimp only [qMem] at hm
  split at hm
  · rename_i g r v i a rest
    split at hm
    · rename_i hP hv
      cases hm
      unfold qStA at hv
      split at hv
      · rename_i t' n f hh
        split at hv
        · rename_i hi
          obtain ⟨ht, ht10, hi, hO⟩ := hi
          subst ht
          cases hv
          have hin := qIn_in hi
          have hlt : i.toNatClampNeg < n := Nat.not_le.mp fun q => hin (Or.inr q)
          have h0 : ¬ i < 0 := fun q => hin (Or.inl q)
          obtain ⟨t0, ht0⟩ := qRef_p hk
          have htb : t' - 10 < 11 := by
            unfold qRefTag at hk
            simp only [Bool.or_eq_true, beq_iff_eq] at hk
            omega
          unfold qIsO at hO
          split at hO
          · rename_i ci vs hv
            rw [beq_iff_eq] at hO
            subst hO
            obtain ⟨-, r', hr', cellV, g1, g2, g3, -⟩ := hS.obj htb hv
            rw [qCl_at _ htb] at hr'
            cases hr'
            have hcls := (hK.1 _ _ (qCl_at _ htb)).2
            obtain ⟨kA, comp, k1, k2, k3, -⟩ := (hK.2 t0 _ (ht0 _)).2
            have hcomp : comp = z.2.1.1 (t' - 10) := Option.some.inj (k3.symm.trans hcls.1)
            subst hcomp
            obtain ⟨kC, hkC, -⟩ := hcls.2
            refine W.aast hexec hb (hS.arr hh).2 (fun q h => by cases h) (fun h => by cases h) k1 k2 rfl hkC ⟨h0, by show _ < (arrV _ _ _).slots.size; rw [arrV_size]; exact hlt⟩ g1 (fun q h => by rw [g3] at h; cases h) (by rw [g2]; exact hkC) (by rw [g2]; exact va_assign hcls) rfl rfl hdg fun H1 e1 z1 oq => ?_
            refine kk.same rfl rfl (hS.set (hS.arr hh).1 ⟨(hS.arr hh).1, ?_⟩ z1 oq) (sd_locs hl (hS.arr hh).1)
            rw [e1]
            rw [vp_cell_q, vp_cell_q, arrV_store]
            congr 2
            funext q
            by_cases hq : q = i.toNatClampNeg
            · subst hq
              simp [updV, va_up, va_rf]
            · simp [updV, va_up, va_rf, hq]
          · cases hO
        · cases hv
      · cases hv
    · cases hm
  · cases hm
theorem sd_alen (B : qB3 z p c cc s args own m h H locs) (hX : G.1 < z.1 ∧ va_X G.1 G.2.1 G.2.2.1 s z.2.2.2.1 ∧ z.2.2.2.1.size = z.1) (hdg : decode cc pc = .ok (.arraylength, 1)) (hm : qMem G (.arraylength) lk st h = some (st', h'))
    (kk : qC3 z p l e R s m args below meth c cells slots Q ls h h' st' (pc + 1)) : W p l e R s m args below meth c H locs cells slots Q (F0 m pc ls st) := by
  obtain ⟨hexec, hb, hts, hown, hK, hS, hl⟩ := B
  dsimp only [qMem] at hm
  split at hm
  · rename_i a rest
    split at hm
    · rename_i hi
      obtain ⟨ha, -⟩ := hi
      subst ha
      cases hm
      exact va_slen (A := fun q => z.1 ≤ q) (H0 := z.2.2.2.1) hexec hb hX.2.1 (by rw [hX.2.2]; exact hX.1) (fun q => by have := hX.1; omega) (sd_S hS hX.2.2 hl) hdg (kk.same rfl rfl hS hl)
    · cases hm
  · cases hm
theorem qTag_p {g : Nat} (h : g < 6) : ∃ k : Nat, ∀ aC : Nat → ClassId, (qTys aC)[k]? = some (aC g, qTg g) := by
  match g, h with
  | 0, _ => exact ⟨0, fun _ => rfl⟩
  | 1, _ => exact ⟨1, fun _ => rfl⟩
  | 2, _ => exact ⟨2, fun _ => rfl⟩
  | 3, _ => exact ⟨3, fun _ => rfl⟩
  | 4, _ => exact ⟨4, fun _ => rfl⟩
  | 5, _ => exact ⟨5, fun _ => rfl⟩
  | n + 6, h => exact absurd h (by omega)
theorem qTag_z {g : Nat} (h : g < 6) (cA : ClassId) (n : Nat) : ∃ x, qZero g n = .inl (g, n, x) ∧ vp_cell cA (n, x) = arrV cA n (fun _ => defaultValue (qTg g)) ∧ componentBytes (qTg g) ≤ 8 ∧ Cond.arrayClass (qTg g) ∈ GW ∧ ∀ s : State, va_RA s cA (qTg g) = (s.vm.findClass ("[" ++ (qTg g).toString) = some cA) := by
  match g, h with
  | 0, _ => exact ⟨_, rfl, rfl, by decide, qIsW_mem (i := 402) (by decide +kernel), fun _ => rfl⟩
  | 1, _ => exact ⟨_, rfl, rfl, by decide, qIsW_mem (i := 124) (by decide +kernel), fun _ => rfl⟩
  | 2, _ => exact ⟨_, rfl, rfl, by decide, qIsW_mem (i := 629) (by decide +kernel), fun _ => rfl⟩
  | 3, _ => exact ⟨_, rfl, rfl, by decide, qIsW_mem (i := 334) (by decide +kernel), fun _ => rfl⟩
  | 4, _ => exact ⟨_, rfl, rfl, by decide, qIsW_mem (i := 1399) (by decide +kernel), fun _ => rfl⟩
  | 5, _ => exact ⟨_, rfl, rfl, by decide, qIsW_mem (i := 1911) (by decide +kernel), fun _ => rfl⟩
  | n + 6, h => exact absurd h (by omega)
theorem sd_newa {t : ArrayType} (B : qB3 z p c cc s args own m h H locs) (hdg : decode cc pc = .ok (.newarray t, 2)) (hk : (match lk with
      | g :: _ => decide (g < 6) && decide (newarray.typeOf t = qTg g)
      | _ => false) = true) (hm : qMem G (.newarray t) lk st h = some (st', h')) (hrc : cells + (h'.1 - h.1) ≤ R.cells) (hrs : slots + (h'.2.1 - h.2.1) ≤ R.slots)
    (kk : qC3 z p l e R s m args below meth c cells slots Q ls h h' st' (pc + 2)) : W p l e R s m args below meth c H locs cells slots Q (F0 m pc ls st) := by
  obtain ⟨hexec, hb, hts, hown, hK, hS, hl⟩ := B
  dsimp only [qMem] at hm
  split at hm
  · rename_i g r n rest
    split at hm
    · rename_i hi
      obtain ⟨h0, hN, hg⟩ := hi
      cases hm
      simp only [Bool.and_eq_true, decide_eq_true_eq] at hk
      obtain ⟨hg6, hty⟩ := hk
      obtain ⟨t0, ht0⟩ := qTag_p hg6
      obtain ⟨x, hx1, hx2, hx3, hx4, hx5⟩ := qTag_z hg6 (z.2.2.1 g) n.toNatClampNeg
      have hA := hK.2 t0 _ (ht0 _)
      have d1 : (qNewC h (qZero g n.toNatClampNeg) n.toNatClampNeg).1 - h.1 = 1 := by show h.1 + 1 - h.1 = 1; omega
      have d2 : (qNewC h (qZero g n.toNatClampNeg) n.toNatClampNeg).2.1 - h.2.1 = n.toNatClampNeg := by show h.2.1 + _ - h.2.1 = _; omega
      rw [d1] at hrc
      rw [d2] at hrs
      have hgo : va_RA s (z.2.2.1 g) (qTg g) := hA.2
      rw [hx5] at hgo
      refine va_newaK hexec hb (by rw [hty]; exact hts _ hx4) (g := F0 m pc ls (.int n :: rest)) rfl hdg rfl (fun q => Int32.lt_irrefl (Int32.lt_of_le_of_lt h0 q)) rfl (by rw [hty]; calc n.toNatClampNeg * componentBytes (qTg g) ≤ 1000000 * 8 := Nat.mul_le_mul hN hx3
          _ ≤ 536870912 := by decide) hrc hrs hS.1 fun H1 cA e1 z1 o1 hAr hNm => ?_
      rw [hty] at hNm e1
      have hcA : cA = z.2.2.1 g := Option.some.inj (hNm.symm.trans hgo)
      subst hcA
      have hC : qSim z (qNewC h (qZero g n.toNatClampNeg) n.toNatClampNeg) H1 := hS.new (by rw [hx1]; exact ⟨hS.2.1, by rw [e1, hx2]⟩) (by rw [z1, hS.1]) (fun q hq => o1 q (by rw [← hS.1]; exact hq))
      have := kk H1 locs hC hl
      rw [d1, d2] at this
      exact this
    · cases hm
  · cases hm
theorem sd_anewa {idx : Nat} (B : qB3 z p c cc s args own m h H locs) (hdg : decode cc pc = .ok (.anewarray idx, 3)) (hk : (match lk with
      | w :: g :: _ => qRefTag g && qIsW w (.classLink own idx (tCls.getD (g - 10) ""))
      | _ => false) = true) (hm : qMem G (.anewarray idx) lk st h = some (st', h')) (hrc : cells + (h'.1 - h.1) ≤ R.cells) (hrs : slots + (h'.2.1 - h.2.1) ≤ R.slots)
    (kk : qC3 z p l e R s m args below meth c cells slots Q ls h h' st' (pc + 3)) : W p l e R s m args below meth c H locs cells slots Q (F0 m pc ls st) := by
  obtain ⟨hexec, hb, hts, hown, hK, hS, hl⟩ := B
  dsimp only [qMem] at hm
  split at hm
  · rename_i w g r n rest
    split at hm
    · rename_i hi
      obtain ⟨h0, hN, hg⟩ := hi
      cases hm
      rw [Bool.and_eq_true] at hk
      obtain ⟨hrt, hw⟩ := hk
      obtain ⟨t0, ht0⟩ := qRef_p hrt
      have hov : Cond.arrayOver (.object (tCls.getD (g - 10) "")) ∈ GW := by
        unfold qRefTag at hrt
        simp only [Bool.or_eq_true, beq_iff_eq] at hrt
        rcases hrt with ((hrt | hrt) | hrt) | hrt <;> subst hrt
        · exact qIsW_mem (i := 342) (by decide +kernel)
        · exact qIsW_mem (i := 102) (by decide +kernel)
        · exact qIsW_mem (i := 104) (by decide +kernel)
        · exact qIsW_mem (i := 106) (by decide +kernel)
      obtain ⟨kA, comp, k1, k2, k3, k4⟩ := (hK.2 t0 _ (ht0 _)).2
      have hz : qZero g n.toNatClampNeg = .inl (g, n.toNatClampNeg, .inr (.inr (.inr (.inr (fun _ => none))))) := by
        unfold qZero
        rw [if_neg (by omega), if_neg (by omega), if_pos hg]
      have d1 : (qNewC h (qZero g n.toNatClampNeg) n.toNatClampNeg).1 - h.1 = 1 := by show h.1 + 1 - h.1 = 1; omega
      have d2 : (qNewC h (qZero g n.toNatClampNeg) n.toNatClampNeg).2.1 - h.2.1 = n.toNatClampNeg := by show h.2.1 + _ - h.2.1 = _; omega
      rw [d1] at hrc
      rw [d2] at hrs
      refine W.anew hexec hb hown (hts _ (qIsW_mem hw)) (hts _ hov) (g := F0 m pc ls (.int n :: rest)) rfl hdg rfl (fun q => Int32.lt_irrefl (Int32.lt_of_le_of_lt h0 q)) (by calc n.toNatClampNeg * 4 ≤ 1000000 * 4 := Nat.mul_le_mul_right _ hN
          _ ≤ 536870912 := by decide) hrc hrs fun cA kA2 comp2 f1 f2 f3 f4 => ?_
      have hcA : cA = z.2.2.1 g := Option.some.inj (f1.symm.trans k4)
      subst hcA
      generalize hH1 : H.push ({ cls := z.2.2.1 g, slots := Array.replicate n.toNatClampNeg .null, vm := .none } : Cell) = H1
      have z1 : H1.size = H.size + 1 := by rw [← hH1, Array.size_push]
      have e1 : H1[H.size]? = some (arrV (z.2.2.1 g) n.toNatClampNeg (fun _ => .null)) := by rw [← hH1, Array.getElem?_push_size, ← arrV_new]
      have o1 : ∀ q : Nat, q < H.size → H1[q]? = H[q]? := fun q hq => by rw [← hH1, Array.getElem?_push, if_neg (Nat.ne_of_lt hq)]
      have hC : qSim z (qNewC h (qZero g n.toNatClampNeg) n.toNatClampNeg) H1 := hS.new (by rw [hz]; exact ⟨hS.2.1, by rw [← hS.1, e1]; rfl⟩) z1 o1
      have := kk H1 locs hC hl
      rw [d1, d2, ← hS.1] at this
      exact this
    · cases hm
  · cases hm
theorem qBorn_p {ci : Nat} (h : ci < 11) : ∀ j, j < tN.getD ci 0 → defaultValue (tTy ci j) = vp_V (qBorn ci) j := by
  have key : ∀ ci, ci < 11 → ((List.range (tN.getD ci 0)).all (fun j => decide (defaultValue (tTy ci j) = vp_V (qBorn ci) j))) = true := by decide +kernel
  intro j hj
  have := List.all_eq_true.mp (key ci h) j (List.mem_range.mpr hj)
  exact of_decide_eq_true this
theorem sd_new {mm idx w ci n : Nat} {r : List Nat} (B : qB3 z p c cc s args (qY mm).cls m h H locs) (hci : ci < 11) (hw : qIsW w (.classLink (qY mm).cls idx (tCls.getD ci "")) = true) (hn : n = tN.getD ci 0) (hdg : decode cc pc = .ok (.new idx, 3)) (hrc : cells + 1 ≤ R.cells) (hrs : slots + n ≤ R.slots)
    (kk : ∀ H1 : Heap, qSim z (qNewC h (.inr (ci, qBorn ci)) n) H1 → W p l e R s m args below meth c H1 locs (cells + 1) (slots + n) Q (F0 m (pc + 3) ls (.ref h.1 :: st))) : W p l e R s m args below meth c H locs cells slots Q (F0 m pc ls st) := by
  obtain ⟨hexec, hb, hts, hown, hK, hS, hl⟩ := B
  subst hn
  obtain ⟨q1, q2, q3, q4, q5, q6⟩ := qCls_p hci
  have hKn := hK.1 ci _ (qCl_at ci hci)
  refine W.newcK hexec hb hown (hts _ (qIsW_mem hw)) (hts _ q5) (hts _ q6) (g := F0 m pc ls st) rfl hdg hrc hrs hKn.2.1 rfl fun H1 kC hkC e1 z1 o1 => ?_
  have hC : qSim z (qNewC h (.inr (ci, qBorn ci)) (tN.getD ci 0)) H1 := hS.new (by
    unfold qAt
    dsimp only
    rw [if_neg (by omega)]
    refine ⟨hS.2.1, _, qCl_at ci hci, ?_⟩
    rw [← hS.1]
    exact (u_born (tTy ci) hts q1 hKn hkC e1 q2).to (qBorn_p hci)) z1 o1
  have := kk H1 hC
  rw [← hS.1] at this
  exact this
end SND3
