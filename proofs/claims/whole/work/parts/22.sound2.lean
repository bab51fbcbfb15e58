/-! ===== The small machine is sound, 2: locals, and the heap ===== -/
def qLok (ls : Array Slot) (n : Nat) (L : qLV) : Prop := ls.size = n ∧ L.length = n ∧ lv_wf ls ∧ ∀ (i : Nat) (v : Value), L[i]? = some (some v) → ls[i]? = some (.val v)
def qA (L : qLV) : List (Nat × Value) := (List.range L.length).filterMap (fun i => match L[i]? with
  | some (some v) => some (i, v)
  | _ => none)
theorem qA_mem {L : qLV} {i : Nat} {v : Value} : (i, v) ∈ qA L ↔ L[i]? = some (some v) := by
  unfold qA
  rw [List.mem_filterMap]
  constructor
  · rintro ⟨j, -, h⟩
    split at h
    · rename_i w hw; cases h; exact hw
    · cases h
  · intro h
    exact ⟨i, List.mem_range.mpr (List.getElem?_eq_some_iff.mp h).1, by rw [h]⟩
theorem qLok.has {ls : Array Slot} {n : Nat} {L : qLV} (h : qLok ls n L) : lv_has ls n (qA L) := ⟨h.1, h.2.2.1, fun q hq => h.2.2.2 q.1 q.2 (qA_mem.mp hq)⟩
theorem qLok.of {ls : Array Slot} {n : Nat} {l : List (Nat × Value)} {L : qLV} (h : lv_has ls n l) (hn : L.length = n) (hl : ∀ (i : Nat) (v : Value), L[i]? = some (some v) → (i, v) ∈ l) : qLok ls n L := ⟨h.1, hn, h.2.1, fun i v hv => h.2.2 _ (hl i v hv)⟩
theorem qKill_len (L : qLV) (i : Nat) : (qKill L i).length = L.length := by
  unfold qKill
  split
  · rfl
  · split
    · split
      · simp
      · rfl
    · rfl
theorem qKill_get {L : qLV} {i j : Nat} {v : Value} (h : (qKill L i)[j]? = some (some v)) : L[j]? = some (some v) ∧ ¬ (j + 1 = i ∧ v.category = 2) := by
  unfold qKill at h
  split at h
  · exact ⟨h, fun q => by omega⟩
  · rename_i k
    split at h
    · rename_i w hw
      split at h
      · rename_i hc
        rw [List.getElem?_set] at h
        split at h
        · split at h <;> cases h
        · rename_i hne
          exact ⟨h, fun q => hne (by omega)⟩
      · rename_i hc
        refine ⟨h, fun q => ?_⟩
        have hjk : j = k := by omega
        subst hjk
        rw [h] at hw
        cases hw
        exact hc q.2
    · rename_i hno
      refine ⟨h, fun q => ?_⟩
      have hjk : j = k := by omega
      subst hjk
      exact hno _ h
theorem qS1_in {L : qLV} {i j : Nat} {v w : Value} (h : (qS1 L i v)[j]? = some (some w)) : (j, w) ∈ (i, v) :: (qA L).filter (fun q => !(q.1 == i) && !(q.1 + 1 == i && q.2.category == 2)) := by
  unfold qS1 at h
  rw [List.getElem?_set] at h
  split at h
  · rename_i e
    split at h
    · cases h; subst e; exact List.mem_cons_self
    · cases h
  · rename_i hne
    obtain ⟨h1, h2⟩ := qKill_get h
    refine List.mem_cons_of_mem _ (List.mem_filter.mpr ⟨qA_mem.mpr h1, ?_⟩)
    simp only [Bool.and_eq_true, Bool.not_eq_true', beq_eq_false_iff_ne, ne_eq, Bool.and_eq_false_iff]
    refine ⟨fun q => hne q.symm, ?_⟩
    by_cases hc : j + 1 = i
    · exact Or.inr (fun q => h2 ⟨hc, q⟩)
    · exact Or.inl hc
theorem qS2_in {L : qLV} {i j : Nat} {v w : Value} (h : (qS2 L i v)[j]? = some (some w)) : (j, w) ∈ (i, v) :: (qA L).filter (fun q => !(q.1 == i) && (!(q.1 == i + 1) && !(q.1 + 1 == i && q.2.category == 2))) := by
  unfold qS2 at h
  rw [List.getElem?_set] at h
  split at h
  · split at h <;> cases h
  · rename_i hne2
    rw [List.getElem?_set] at h
    split at h
    · rename_i e
      split at h
      · cases h; subst e; exact List.mem_cons_self
      · cases h
    · rename_i hne
      obtain ⟨h1, h2⟩ := qKill_get h
      refine List.mem_cons_of_mem _ (List.mem_filter.mpr ⟨qA_mem.mpr h1, ?_⟩)
      simp only [Bool.and_eq_true, Bool.not_eq_true', beq_eq_false_iff_ne, ne_eq, Bool.and_eq_false_iff]
      refine ⟨fun q => hne q.symm, fun q => hne2 q.symm, ?_⟩
      by_cases hc : j + 1 = i
      · exact Or.inr (fun q => h2 ⟨hc, q⟩)
      · exact Or.inl hc
theorem qS1_len (L : qLV) (i : Nat) (v : Value) : (qS1 L i v).length = L.length := by unfold qS1; rw [List.length_set, qKill_len]
theorem qS2_len (L : qLV) (i : Nat) (v : Value) : (qS2 L i v).length = L.length := by unfold qS2; rw [List.length_set, List.length_set, qKill_len]
theorem qMask_spec (bs : List Bool) (L : qLV) : (qMask bs L).length = L.length ∧ ∀ (i : Nat) (v : Value), (qMask bs L)[i]? = some (some v) → L[i]? = some (some v) := by
  induction bs generalizing L with
  | nil =>
    refine ⟨by cases L <;> simp [qMask], fun i v h => ?_⟩
    have h' : (L.map (fun _ => (none : Option Value)))[i]? = some (some v) := by cases L <;> simpa [qMask] using h
    rw [List.getElem?_map] at h'
    cases hx : L[i]? <;> rw [hx] at h' <;> simp at h'
  | cons b bs ih =>
    cases L with
    | nil => exact ⟨by cases b <;> simp [qMask], fun i v h => by cases b <;> simp [qMask] at h⟩
    | cons x L =>
      obtain ⟨h1, h2⟩ := ih L
      cases b
      · refine ⟨by simp [qMask, h1], fun i v h => ?_⟩
        cases i with
        | zero => simp [qMask] at h
        | succ i => simp only [qMask, List.getElem?_cons_succ] at h ⊢; exact h2 i v h
      · refine ⟨by simp [qMask, h1], fun i v h => ?_⟩
        cases i with
        | zero => simpa [qMask] using h
        | succ i => simp only [qMask, List.getElem?_cons_succ] at h ⊢; exact h2 i v h
theorem qLok.mask {ls : Array Slot} {n : Nat} {L : qLV} (h : qLok ls n L) (bs : List Bool) : qLok ls n (qMask bs L) := ⟨h.1, (qMask_spec bs L).1.trans h.2.1, h.2.2.1, fun i v hv => h.2.2.2 i v ((qMask_spec bs L).2 i v hv)⟩
theorem qLok.lose {ls : Array Slot} {n : Nat} {L : qLV} (h : qLok ls n L) (k : Nat) : qLok ls n (L.set k none) := ⟨h.1, by rw [List.length_set]; exact h.2.1, h.2.2.1, fun i v hv => h.2.2.2 i v (by
  rw [List.getElem?_set] at hv
  split at hv
  · split at hv <;> cases hv
  · exact hv)⟩
theorem qArgs_spec (vs : List Value) : (qArgs vs).length = (lg_sl vs).length ∧ ∀ (b i : Nat) (v : Value), (qArgs vs)[i]? = some (some v) → (b + i, v) ∈ lv_args b vs := by
  induction vs with
  | nil => exact ⟨rfl, fun b i v h => by simp [qArgs] at h⟩
  | cons x vs ih =>
    obtain ⟨h1, h2⟩ := ih
    have hl : ∀ y : Value, y.category = 2 → (lg_sl (y :: vs)).length = (lg_sl vs).length + 2 := fun y hy => by simp [lg_sl, hy]
    have hl1 : ∀ y : Value, ¬ y.category = 2 → (lg_sl (y :: vs)).length = (lg_sl vs).length + 1 := fun y hy => by simp [lg_sl, hy]
    have two : ∀ y : Value, y.category = 2 → qArgs (y :: vs) = some y :: none :: qArgs vs → (qArgs (y :: vs)).length = (lg_sl (y :: vs)).length ∧ ∀ (b i : Nat) (v : Value), (qArgs (y :: vs))[i]? = some (some v) → (b + i, v) ∈ lv_args b (y :: vs) := by
      intro y hy e
      rw [e, hl y hy]
      refine ⟨by simp [h1], fun b i v h => ?_⟩
      rw [lv_args, if_pos hy]
      match i, h with
      | 0, h => simp at h; subst h; exact List.mem_cons_self
      | 1, h => simp at h
      | i + 2, h =>
        refine List.mem_cons_of_mem _ ?_
        have := h2 (b + 2) i v (by simpa using h)
        rwa [show b + (i + 2) = b + 2 + i by omega]
    have one : ∀ y : Value, ¬ y.category = 2 → qArgs (y :: vs) = some y :: qArgs vs → (qArgs (y :: vs)).length = (lg_sl (y :: vs)).length ∧ ∀ (b i : Nat) (v : Value), (qArgs (y :: vs))[i]? = some (some v) → (b + i, v) ∈ lv_args b (y :: vs) := by
      intro y hy e
      rw [e, hl1 y hy]
      refine ⟨by simp [h1], fun b i v h => ?_⟩
      rw [lv_args, if_neg hy]
      match i, h with
      | 0, h => simp at h; subst h; exact List.mem_cons_self
      | i + 1, h =>
        refine List.mem_cons_of_mem _ ?_
        have := h2 (b + 1) i v (by simpa using h)
        rwa [show b + (i + 1) = b + 1 + i by omega]
    cases x with
    | long y => exact two _ rfl rfl
    | double y => exact two _ rfl rfl
    | int y => exact one _ (by simp [Value.category]) rfl
    | float y => exact one _ (by simp [Value.category]) rfl
    | null => exact one _ (by simp [Value.category]) rfl
    | ref y => exact one _ (by simp [Value.category]) rfl
    | retAddr y => exact one _ (by simp [Value.category]) rfl
theorem qPad_ok {vs : List Value} {n : Nat} (h : (lg_sl vs).length ≤ n) : qLok ((lg_sl vs ++ List.replicate (n - (lg_sl vs).length) Slot.unset).toArray) n (qPad n (qArgs vs)) := by
  obtain ⟨h1, h2⟩ := qArgs_spec vs
  refine qLok.of (lv_entry vs h) (by unfold qPad; rw [List.length_append, List.length_replicate]; omega) (fun i v hv => ?_)
  unfold qPad at hv
  by_cases hi : i < (qArgs vs).length
  · rw [List.getElem?_append_left hi] at hv
    have := h2 0 i v hv
    rwa [Nat.zero_add] at this
  · rw [List.getElem?_append_right (by omega)] at hv
    have := List.eq_of_mem_replicate (List.mem_of_getElem? hv)
    cases this
section SND2
variable {p : Program} {l : Launch} {e : Env} {R : Room} {s : State} {m : MethodId} {args : Array Value} {below : List Frame} {meth : Method} {c : Code} {H : Heap} {locs : List Loc} {cells slots : Nat} {Q : State → Prop}
variable {cc : ByteArray} {pc : Nat} {ls : Array Slot}
theorem sd_ld (hexec : p.tables.exec = Jvm.exec) (hb : c.code = cc) {i : Instr} {k n : Nat} {L : qLV} {v : Value} {st : List Value} (hdg : decode cc pc = .ok (i, qLen i)) (hi : qLdIx i = some k) (hL : qLok ls n L) (hv : qLd L k = some v) (ho : qLdOk i v = true)
    (kk : W p l e R s m args below meth c H locs cells slots Q (F0 m (pc + qLen i) ls (v :: st))) : W p l e R s m args below meth c H locs cells slots Q (F0 m pc ls st) := by
  have hg : ls[k]? = some (.val v) := by
    refine hL.2.2.2 k v ?_
    unfold qLd at hv
    split at hv
    · rename_i w hw; cases hv; exact hw
    · cases hv
  unfold qLdIx at hi
  split at hi
  · cases hi
    cases v <;> simp only [qLdOk, Bool.false_eq_true] at ho
    exact lv_iload hexec hb hdg hg kk
  · cases hi
    cases v <;> simp only [qLdOk, Bool.false_eq_true] at ho
    exact lv_lload hexec hb hdg hg kk
  · cases hi
    cases v <;> simp only [qLdOk, Bool.false_eq_true] at ho
    exact lv_fload hexec hb hdg hg kk
  · cases hi
    cases v <;> simp only [qLdOk, Bool.false_eq_true] at ho
    exact lv_dload hexec hb hdg hg kk
  · cases hi
    cases v <;> simp only [qLdOk, Bool.false_eq_true] at ho
    · exact lv_aloadN hexec hb hdg hg kk
    · exact lv_aload hexec hb hdg hg kk
  · cases hi
    cases v <;> simp only [qLdOk, Bool.false_eq_true] at ho
    exact lv_iload_n hexec hb hdg rfl hg kk
  · cases hi
    cases v <;> simp only [qLdOk, Bool.false_eq_true] at ho
    exact lv_lload_n hexec hb hdg rfl hg kk
  · cases hi
    cases v <;> simp only [qLdOk, Bool.false_eq_true] at ho
    exact lv_fload_n hexec hb hdg rfl hg kk
  · cases hi
    cases v <;> simp only [qLdOk, Bool.false_eq_true] at ho
    exact lv_dload_n hexec hb hdg rfl hg kk
  · cases hi
    cases v <;> simp only [qLdOk, Bool.false_eq_true] at ho
    · exact lv_aload_nN hexec hb hdg rfl hg kk
    · exact lv_aload_n hexec hb hdg rfl hg kk
  · cases hi
theorem sd_st (hexec : p.tables.exec = Jvm.exec) (hb : c.code = cc) {i : Instr} {k n : Nat} {L : qLV} {v : Value} {st : List Value} (hdg : decode cc pc = .ok (i, qLen i)) (hi : qStIx i = some k) (hL : qLok ls n L) (hn : k + 1 < n ∨ (k < n ∧ v.category = 1)) (ho : qStOk i v = true)
    (kk : ∀ ls', qLok ls' n (qStW L k v) → W p l e R s m args below meth c H locs cells slots Q (F0 m (pc + qLen i) ls' st)) : W p l e R s m args below meth c H locs cells slots Q (F0 m pc ls (v :: st)) := by
  have hh := hL.has
  have hn1 : k < n := by rcases hn with h | h <;> omega
  have k1 : ∀ (ls' : Array Slot), lv_has ls' n ((k, v) :: (qA L).filter (fun q => !(q.1 == k) && !(q.1 + 1 == k && q.2.category == 2))) → qLok ls' n (qS1 L k v) := fun ls' h => qLok.of h ((qS1_len L k v).trans hL.2.1) (fun j w hw => qS1_in hw)
  have k2 : ∀ (ls' : Array Slot), lv_has ls' n ((k, v) :: (qA L).filter (fun q => !(q.1 == k) && (!(q.1 == k + 1) && !(q.1 + 1 == k && q.2.category == 2)))) → qLok ls' n (qS2 L k v) := fun ls' h => qLok.of h ((qS2_len L k v).trans hL.2.1) (fun j w hw => qS2_in hw)
  unfold qStIx at hi
  split at hi
  · cases hi
    cases v <;> simp only [qStOk, Bool.false_eq_true] at ho
    exact lv_istore hexec hb hdg hh hn1 rfl (fun ls' h => kk ls' (k1 ls' h))
  · cases hi
    cases v <;> simp only [qStOk, Bool.false_eq_true] at ho
    exact lv_lstore hexec hb hdg hh (hn.elim id (fun q => absurd q.2 (by simp [Value.category]))) rfl (fun ls' h => kk ls' (k2 ls' h))
  · cases hi
    cases v <;> simp only [qStOk, Bool.false_eq_true] at ho
    exact lv_fstore hexec hb hdg hh hn1 rfl (fun ls' h => kk ls' (k1 ls' h))
  · cases hi
    cases v <;> simp only [qStOk, Bool.false_eq_true] at ho
    exact lv_dstore hexec hb hdg hh (hn.elim id (fun q => absurd q.2 (by simp [Value.category]))) rfl (fun ls' h => kk ls' (k2 ls' h))
  · cases hi
    cases v <;> simp only [qStOk, Bool.false_eq_true] at ho
    · exact lv_astoreN hexec hb hdg hh hn1 rfl (fun ls' h => kk ls' (k1 ls' h))
    · exact lv_astore hexec hb hdg hh hn1 rfl (fun ls' h => kk ls' (k1 ls' h))
  · cases hi
    cases v <;> simp only [qStOk, Bool.false_eq_true] at ho
    exact lv_istore_n hexec hb hdg rfl hh hn1 rfl (fun ls' h => kk ls' (k1 ls' h))
  · cases hi
    cases v <;> simp only [qStOk, Bool.false_eq_true] at ho
    exact lv_lstore_n hexec hb hdg rfl hh (hn.elim id (fun q => absurd q.2 (by simp [Value.category]))) rfl (fun ls' h => kk ls' (k2 ls' h))
  · cases hi
    cases v <;> simp only [qStOk, Bool.false_eq_true] at ho
    exact lv_fstore_n hexec hb hdg rfl hh hn1 rfl (fun ls' h => kk ls' (k1 ls' h))
  · cases hi
    cases v <;> simp only [qStOk, Bool.false_eq_true] at ho
    exact lv_dstore_n hexec hb hdg rfl hh (hn.elim id (fun q => absurd q.2 (by simp [Value.category]))) rfl (fun ls' h => kk ls' (k2 ls' h))
  · cases hi
    cases v <;> simp only [qStOk, Bool.false_eq_true] at ho
    · exact lv_astore_nN hexec hb hdg rfl hh hn1 rfl (fun ls' h => kk ls' (k1 ls' h))
    · exact lv_astore_n hexec hb hdg rfl hh hn1 rfl (fun ls' h => kk ls' (k1 ls' h))
  · cases hi
theorem sd_inc (hexec : p.tables.exec = Jvm.exec) (hb : c.code = cc) {k n : Nat} {j : Int} {x : Int32} {L : qLV} {st : List Value} (hdg : decode cc pc = .ok (.iinc k j, 3)) (hL : qLok ls n L) (hn : k < n) (hv : qLd L k = some (.int x))
    (kk : ∀ ls', qLok ls' n (qS1 L k (.int (x + Int32.ofInt j))) → W p l e R s m args below meth c H locs cells slots Q (F0 m (pc + 3) ls' st)) : W p l e R s m args below meth c H locs cells slots Q (F0 m pc ls st) := by
  have hg : L[k]? = some (some (.int x)) := by
    unfold qLd at hv
    split at hv
    · rename_i w hw; cases hv; exact hw
    · cases hv
  obtain ⟨q, hq⟩ := List.getElem?_of_mem (qA_mem.mpr hg)
  exact lv_iinc hexec hb hdg hL.has hq rfl hn rfl (fun ls' h => kk ls' (qLok.of h ((qS1_len L k _).trans hL.2.1) (fun j w hw => qS1_in hw)))
end SND2
