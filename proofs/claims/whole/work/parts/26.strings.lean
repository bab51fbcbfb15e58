/-! ===== What stands through the whole run; the texts of the constants ===== -/
abbrev qAb (z : qE) : Nat → Prop := fun q => z.1 ≤ q
def qStr1 (z : qE) (U : State) (k : Nat) : Prop := z.2.2.2.2 k < z.1 ∧ va_O "java/lang/String" (z.2.2.2.2 k) (qAb z) U z.2.2.2.1 ∧ va_OF "java/lang/String" "coder" "B" (.int 0) (z.2.2.2.2 k) (qAb z) U z.2.2.2.1 ∧ va_OF "java/lang/String" "value" "[B" (.ref (z.2.2.2.2 (k + 14))) (z.2.2.2.2 k) (qAb z) U z.2.2.2.1 ∧ va_T .byte (z.2.2.2.2 (k + 14)) (qTx k).length (fun j => (qTx k).getD j .null) (qAb z) U z.2.2.2.1
def qFx (z : qE) (G : qG) (U : State) : Prop := va_K z.2.1 qCl (qTys z.2.2.1) U ∧ (G.1 < z.1 ∧ va_X G.1 G.2.1 G.2.2.1 U z.2.2.2.1 ∧ z.2.2.2.1.size = z.1) ∧ vx_Zq Bundle.tN "UNASSIGNED_STACK" Bundle.steD (qAb z) U z.2.2.2.1 ∧ vx_Zq Bundle.tN "SUPPRESSED_SENTINEL" Bundle.listD (qAb z) U z.2.2.2.1 ∧ va_Z "java/lang/String" "COMPACT_STRINGS" "Z" (.int 1) (qAb z) U z.2.2.2.1 ∧ va_Zq "jdk/internal/util/Preconditions" "SIOOBE_FORMATTER" "Ljava/util/function/BiFunction;" (qAb z) U z.2.2.2.1 ∧ (∀ k, k < 14 → qStr1 z U k) ∧ (∀ q ∈ tStr, vk_R q.1 q.2.1 q.2.2.1 (z.2.2.2.2 q.2.2.2) U) ∧ (∀ q ∈ tMsg, ∃ a, vk_R q.1 q.2.1 q.2.2 a U) ∧ va_Nc "java/lang/IllegalArgumentException" "java/lang/IndexOutOfBoundsException" U ∧ G.2.2.2 = z.2.2.2.2
theorem qStr1.moved {z : qE} {s U : State} {k : Nat} (hvm : s.vm.Alike U.vm) (h : qStr1 z s k) : qStr1 z U k := by
  obtain ⟨h1, h2, h3, h4, h5⟩ := h
  exact ⟨h1, va_O.moved hvm h2, va_OF.moved hvm h3, va_OF.moved hvm h4, va_T.moved hvm h5⟩
theorem qFx.warm {z : qE} {G : qG} {s U : State} (hW : s.WarmedH U.vm) (h : qFx z G s) : qFx z G U := by
  obtain ⟨h1, ⟨h2a, h2b, h2c⟩, h3, h4, h5, h6, h7, h8, h9, h10, h11⟩ := h
  exact ⟨va_K.moved hW.alike h1, ⟨h2a, va_X.moved hW.alike h2b, h2c⟩, vx_Zq.moved hW.alike h3, vx_Zq.moved hW.alike h4, va_Z.moved hW.alike h5, va_Zq.moved hW.alike h6, fun k hk => (h7 k hk).moved hW.alike, fun q hq => vk_R.warm hW (h8 q hq), fun q hq => let ⟨a, ha⟩ := h9 q hq; ⟨a, vk_R.warm hW ha⟩, va_Nc.moved hW.alike h10, h11⟩
def qLow (z : qE) (H : Heap) : Prop := z.1 ≤ H.size ∧ ∀ q : Nat, q < z.1 → H[q]? = z.2.2.2.1[q]?
theorem qSim.low {z : qE} {h : qHp} {H : Heap} (hS : qSim z h H) : qLow z H := ⟨by rw [hS.1]; exact hS.2.1, hS.2.2.1⟩
theorem qLow.q {z : qE} {H : Heap} (h : qLow z H) (hz : z.2.2.2.1.size = z.1) : ∀ a : Nat, a < z.2.2.2.1.size → ¬ qAb z a → H[a]? = z.2.2.2.1[a]? := fun a h1 _ => h.2 a (by omega)
def qJm (l : Launch) (z : qE) (G : qG) (y : MethodName) (cc : ByteArray) (mL : Nat) (ret : Option FieldType) (F Lc : Nat) (av : List Value) (v : Option Value) : Prop :=
  Met l y (Cond.code y cc mL ret :: GW) { frames := F, locals := Lc, cells := 0, slots := 0 } (fun a U => a = av.toArray ∧ qFx z G U ∧ qLow z U.heap) (fun _ st o t => o = .returned v ∧ t.heap = st.heap) 0 0 (fun _ => False)
theorem qJm_of {l : Launch} {z : qE} {G : qG} {y : MethodName} {cc : ByteArray} {mL : Nat} {ret : Option FieldType} {F Lc : Nat} {av : List Value} {v : Option Value} (hy : plainName y.cls = true) (hsl : (lg_sl av).length ≤ mL)
    (body : ∀ (p : Program) (e : Env) (s : State) (m : MethodId) (args : Array Value) (below : List Frame) (meth : Method) (c : Code) (ls : Array Slot), p.tables.exec = Jvm.exec → c.code = cc → meth.sig.returnType = ret → c.maxLocals = mL → s.vm.findClass y.cls = some m.cls → (∀ w ∈ GW, w.before args s = true) → meth.locks = false → qFx z G s → qLow z s.heap → lv_has ls mL (lv_args 0 av) →
      W p l e { frames := F, locals := Lc, cells := 0, slots := 0 } s m args below meth c s.heap [] 0 0 (MQ below (fun _ st o t => o = .returned v ∧ t.heap = st.heap) args s 0 0 (fun _ => False)) (F0 m 0 ls [])) : qJm l z G y cc mL ret F Lc av v := by
  refine Met.ofW hy rfl ?_
  intro p e s m args below meth c s₁ B hml hP
  obtain ⟨rfl, hfx, hlow⟩ := hP
  rw [lg_entry_eq]
  have hw := atoms_spec (ws := Cond.code y cc mL ret :: GW) B.pre
  exact body p e s m _ below meth c _ B.exec B.bytes B.returns hml (findClass_of_methodNamed B.named) (fun w h => hw w (List.mem_cons_of_mem _ h)) B.notSynchronized hfx hlow (lv_entry av hsl)
section SJ
variable {p : Program} {l : Launch} {e : Env} {R : Room} {s : State} {m : MethodId} {args : Array Value} {below : List Frame} {meth : Method} {c : Code} {H : Heap} {locs : List Loc} {cells slots : Nat} {Q : State → Prop}
variable {cc : ByteArray} {pc : Nat} {ls : Array Slot} {z : qE} {G : qG} {own : String} {y : MethodName} {bytes : ByteArray} {mL : Nat} {ret : Option FieldType} {F Lc : Nat} {idx n : Nat} {As rest : List Value} {v : Option Value} {b : Nat} {st0 : List Value}
theorem qJ_ws (hts : ∀ w ∈ GW, w.before args s = true) {k : Cond} (hk : k ∈ GW) : ∀ w ∈ k :: GW, ∀ (a' : Array Value) (U : State), s.WarmedH U.vm → w.before a' U = true := by
  intro w hw a' U hW
  have hg : w ∈ GW := (List.mem_cons.mp hw).elim (fun h => by rw [h]; exact hk) id
  exact gX_warm (List.mem_filter.mp hg).2 hW (hts w hg)
theorem qJ_cb (hts : ∀ w ∈ GW, w.before args s = true) (h1 : Cond.code y bytes mL ret ∈ GW) (h2 : Cond.initialized y.cls ∈ GW) (h3 : y.cls ≠ "java/lang/invoke/MethodHandle" ∧ y.cls ≠ "java/lang/invoke/VarHandle") (h4 : ∀ sig, parseMethodDescriptor y.desc = some sig → n = sig.parameters.length) (h5 : Cond.methodLink own idx y ∈ GW) (hF : F + 1 ≤ R.frames) (hL : 8 + (mL + 11) + Lc ≤ R.locals) {mc ms : Nat} :
    CallB R s args own idx y bytes mL ret (Cond.code y bytes mL ret :: GW) { frames := F, locals := Lc, cells := mc, slots := ms } mc ms n :=
  ⟨rfl, rfl, hF, hL, qJ_ws hts h1, List.mem_cons_self, hts _ h1, hts _ h2, h3, h4, hts _ h5⟩
theorem qJ_run (hr : CallRun p l e R s m args below meth c H locs cells slots 0 0 (F0 m pc ls st0) rest (fun st o t => o = .returned v ∧ t.heap = st.heap) (fun _ => False))
    (kk : W p l e R s m args below meth c H locs cells slots Q (F0 m (pc + 3) ls (v.toList ++ rest))) : W p l e R s m args below meth c H locs cells slots Q (F0 m pc ls st0) := by
  intro T hT X
  obtain ⟨v0, st₀, t, T', L, h0, X', hL, e1, ⟨hv, ht⟩, st⟩ := hr T hT X
  cases hv
  have hL0 : L = [] := by
    cases L with
    | nil => rfl
    | cons a L => exact (hL a List.mem_cons_self).elim
  subst hL0
  rw [List.append_nil] at X'
  obtain ⟨t2, a1, b1⟩ := kk T' (by rw [e1, ht, h0]) X'
  exact ⟨t2, st t2 a1, b1⟩
theorem qJ_V (hM : qJm l z G y bytes mL ret F Lc (.ref b :: As) v) (hexec : p.tables.exec = Jvm.exec) (hb : c.code = cc) (hml : c.maxLocals = ls.size) (hown : s.vm.findClass own = some m.cls) (hts : ∀ w ∈ GW, w.before args s = true) (hfx : qFx z G s) (hlow : qLow z H)
    (h1 : Cond.code y bytes mL ret ∈ GW) (h2 : Cond.initialized y.cls ∈ GW) (h3 : y.cls ≠ "java/lang/invoke/MethodHandle" ∧ y.cls ≠ "java/lang/invoke/VarHandle") (h4 : ∀ sig, parseMethodDescriptor y.desc = some sig → As.length = sig.parameters.length) (h5 : Cond.methodLink own idx y ∈ GW) (h6 : Cond.instanceMethod y ∈ GW) (h7 : Cond.selects y.cls y y ∈ GW) (hF : F + 1 ≤ R.frames) (hL : 8 + (mL + 11) + Lc ≤ R.locals)
    (hcell : ∃ cellB : Cell, H[b]? = some cellB ∧ cellB.vm.isStatics = false ∧ s.vm.findClass y.cls = some cellB.cls) (hrest : (rest.map fun v => v.category).sum ≤ 8) (hc : cells ≤ R.cells) (hs : slots ≤ R.slots) (hdg : decode cc pc = .ok (.invokevirtual idx, 3))
    (kk : W p l e R s m args below meth c H locs cells slots Q (F0 m (pc + 3) ls (v.toList ++ rest))) : W p l e R s m args below meth c H locs cells slots Q (F0 m pc ls (As.reverse ++ .ref b :: rest)) :=
  qJ_run (W.runV (Ts := GW) ⟨hexec, hb, hml, hown, hts⟩ hM ⟨qJ_cb hts h1 h2 h3 h4 h5 hF hL, hts _ h6, hts _ h7⟩ ⟨fun a U g mk h => h, hcell, fun U hU hW => ⟨rfl, hfx.warm hW, by rw [hU]; exact hlow⟩⟩ rfl rfl rfl rfl (by show 2 * 0 + _ ≤ 8; omega) hdg ⟨by omega, by omega⟩) kk
theorem qJ_S (hM : qJm l z G y bytes mL ret F Lc As v) (hexec : p.tables.exec = Jvm.exec) (hb : c.code = cc) (hml : c.maxLocals = ls.size) (hown : s.vm.findClass own = some m.cls) (hts : ∀ w ∈ GW, w.before args s = true) (hfx : qFx z G s) (hlow : qLow z H)
    (h1 : Cond.code y bytes mL ret ∈ GW) (h2 : Cond.initialized y.cls ∈ GW) (h3 : y.cls ≠ "java/lang/invoke/MethodHandle" ∧ y.cls ≠ "java/lang/invoke/VarHandle") (h4 : ∀ sig, parseMethodDescriptor y.desc = some sig → As.length = sig.parameters.length) (h5 : Cond.methodLink own idx y ∈ GW) (h6 : Cond.static y ∈ GW) (hF : F + 1 ≤ R.frames) (hL : 8 + (mL + 11) + Lc ≤ R.locals)
    (hrest : (rest.map fun v => v.category).sum ≤ 8) (hc : cells ≤ R.cells) (hs : slots ≤ R.slots) (hdg : decode cc pc = .ok (.invokestatic idx, 3))
    (kk : W p l e R s m args below meth c H locs cells slots Q (F0 m (pc + 3) ls (v.toList ++ rest))) : W p l e R s m args below meth c H locs cells slots Q (F0 m pc ls (As.reverse ++ rest)) :=
  qJ_run (W.runS (Ts := GW) ⟨hexec, hb, hml, hown, hts⟩ hM ⟨qJ_cb hts h1 h2 h3 h4 h5 hF hL, hts _ h6⟩ ⟨fun a U g mk h => h, fun U hU hW => ⟨rfl, hfx.warm hW, by rw [hU]; exact hlow⟩⟩ rfl rfl rfl rfl (by show 2 * 0 + _ ≤ 8; omega) hdg ⟨by omega, by omega⟩) kk
end SJ
