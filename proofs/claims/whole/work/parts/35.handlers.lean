/-! ===== Handlers ===== -/
def qHndOk (m : Nat) (x : Nat × Nat × Nat × Nat × Nat × Nat × Nat × Nat) : Bool := match x with
  | (_, _, lab, E, loc, hpc, ci, w) => (match PG.1 m lab with
      | (pc, _, i, _, _) :: _ => pc == hpc && decide (qStIx i = some loc) && qStOk i (.ref 0)
      | [] => false) && qIsW w (.classLink (qY m).cls ci (qEName E)) && decide (ci ≠ 0) && decide (E = 101 ∨ E = 102)
def qHOk (m : Nat) : Bool := match tH.getD m [] with
  | [] => true
  | [x] => qHndOk m x
  | [x, y] => qHndOk m x && qHndOk m y && decide (x.1 = y.1 ∧ x.2.1 = y.2.1 ∧ x.2.2.2.1 = 102 ∧ y.2.2.2.1 = 101)
  | _ => false
theorem qH_ok : ∀ m, m < 319 → qHOk m = true := by decide +kernel
theorem qPc_0 : ∀ m, m < 319 → qPc (PG.1 m 0) = 0 := by decide +kernel
theorem qCast (E : Nat) (h : E = 101 ∨ E = 102) : Cond.castable (qEName E) (qEName E) ∈ GW := by
  rcases h with rfl | rfl
  · exact qIsW_mem (i := 746) (by decide +kernel)
  · exact qIsW_mem (i := 824) (by decide +kernel)
section SND8
variable {p : Program} {l : Launch} {e : Env} {R : Room} {s : State} {mid : MethodId} {args : Array Value} {below : List Frame} {meth : Method} {c : Code} {H : Heap} {locs : List Loc} {cells slots : Nat} {Q : State → Prop}
variable {pc len : Nat} {ls : Array Slot} {z : qE} {G : qG} {h : qHp} {st rest : List Value} {m : Nat} {r : qRes} {i : Instr} {lk : List Nat} {cv : Value} {L : qLV}
theorem sd_hnd {x : Nat × Nat × Nat × Nat × Nat × Nat × Nat × Nat} (C : qCx z G p l R s mid args meth c m) (hm : m < 319) (hx : qHndOk m x = true) (hne : (PG.1 m x.2.2.1).tail ≠ []) (hL : qLok ls (qLx m) L) {q : Nat}
    (kk : ∀ ls', qLok ls' (qLx m) ((qS1 L x.2.2.2.2.1 .null).set x.2.2.2.2.1 none) → W p l e R s mid args below meth c H locs cells slots Q (F0 mid (qPc (PG.1 m x.2.2.1).tail) ls' [])) :
    W p l e R s mid args below meth c H locs cells slots Q (F0 mid x.2.2.2.2.2.1 ls [.ref q]) ∧ Cond.classLink (qY m).cls x.2.2.2.2.2.2.1 (qEName x.2.2.2.1) ∈ GW ∧ x.2.2.2.2.2.2.1 ≠ 0 ∧ (x.2.2.2.1 = 101 ∨ x.2.2.2.1 = 102) := by
  obtain ⟨a, b, lab, E, loc, hpc, ci, w⟩ := x
  unfold qHndOk at hx
  dsimp only at hx hne kk ⊢
  simp only [Bool.and_eq_true, decide_eq_true_eq] at hx
  obtain ⟨⟨⟨hx1, hx2⟩, hx3⟩, hx4⟩ := hx
  refine ⟨?_, qIsW_mem hx2, hx3, hx4⟩
  have hok := qBlk_ok hm lab
  cases hq : PG.1 m lab with
  | nil => rw [hq] at hx1; cases hx1
  | cons e0 tl =>
    obtain ⟨pc0, len0, i0, lk0, cv0⟩ := e0
    rw [hq] at hx1 hok kk hne
    dsimp only at hx1 kk hne
    simp only [Bool.and_eq_true, beq_iff_eq, decide_eq_true_eq] at hx1
    obtain ⟨⟨e1, e2⟩, e3⟩ := hx1
    subst e1
    obtain ⟨s1, s2, s3⟩ := qSeq_hd hok
    obtain ⟨n1, n2⟩ := qSt_ne e2
    obtain ⟨hd, hl⟩ := qEnt_dec s1 n1 n2
    have e3' : qStOk i0 (.ref q) = true := by
      unfold qStOk at e3 ⊢
      split at e3 <;> first | exact e3 | rfl | (exact absurd e3 (by simp))
    refine sd_st C.1 C.2.1 (by rw [← hl]; exact hd) e2 hL (qSt_room e2 e3' s1) e3' (fun ls' h' => ?_)
    have hk := kk ls' (by
      have h2 := h'.lose loc
      have e9 : (qStW L loc (.ref q)).set loc none = (qS1 L loc .null).set loc none := by
        show ((qKill L loc).set loc (some (.ref q))).set loc none = ((qKill L loc).set loc (some .null)).set loc none
        rw [List.set_set, List.set_set]
      rwa [e9] at h2)
    have e8 : qPc tl = pc0 + qLen i0 := by rw [s3 hne, hl]
    rw [List.tail_cons, e8] at hk
    exact hk
theorem sd_catch {En b k : Nat} (C : qCx z G p l R s mid args meth c m) (hm : m < 319) (hc : PG.2.2.1 m pc En = some (b, k)) (hne : (PG.1 m b).tail ≠ []) (hL : qLok ls (qLx m) L) {q : Nat} {ce : Cell} (hcell : H[q]? = some ce) (hv : ce.vm = .none) (hcl : s.vm.findClass (qEName En) = some ce.cls)
    (kk : ∀ ls', qLok ls' (qLx m) ((qS1 L k .null).set k none) → W p l e R s mid args below meth c H locs cells slots Q (F0 mid (qPc (PG.1 m b).tail) ls' [])) :
    vx_W p l e R s mid args below meth c H locs cells slots Q (F0 mid pc ls rest) q := by
  obtain ⟨hexec, hb, hml, hown, hts, hlocks, htab, hnm, hRf, hRl, hst, hfx⟩ := id C
  have hok := qH_ok m hm
  have hcv : ∀ x : Nat × Nat × Nat × Nat × Nat × Nat × Nat × Nat, (decide (x.1 ≤ pc) && decide (pc < x.2.1) && (x.2.2.2.1 == En)) = true → covers (⟨x.1, x.2.1, x.2.2.2.2.2.1, x.2.2.2.2.2.2.1⟩ : ExceptionTableEntry) pc = true ∧ x.2.2.2.1 = En := fun x hx => by
    rw [Bool.and_eq_true, beq_iff_eq] at hx
    exact hx
  unfold PG at hc
  dsimp only at hc
  unfold qHOk at hok
  unfold qHh at htab
  have none9 : ∀ {k9 : Nat}, (some (9999, k9) : Option (Nat × Nat)) = some (b, k) → False := fun h9 => by
    cases h9
    apply hne
    have hlen : ∀ m, m < 319 → (tB.getD m []).length < 9999 := by decide +kernel
    show ((tB.getD m []).getD 9999 []).tail = []
    rw [List.getD_eq_getElem?_getD, List.getElem?_eq_none (by have := hlen m hm; omega)]
    rfl
  cases hq : tH.getD m [] with
  | nil => rw [hq] at hc; cases hc
  | cons x t =>
    rw [hq] at hc hok htab
    dsimp only at hc
    cases t with
    | nil =>
      dsimp only at hok
      rw [List.find?_cons] at hc
      split at hc
      · rename_i w hw
        split at hw
        · rename_i hcx
          cases hw; cases hc
          obtain ⟨h1, h2⟩ := hcv _ hcx
          obtain ⟨k1, k2, k3, k4⟩ := sd_hnd C hm hok hne hL (q := q) kk
          exact vx_catch hown [] _ [] htab (fun w hw => nomatch hw) h1 k3 (hts _ k2) (hts _ (by rw [h2] at k4 ⊢; exact qCast En k4)) hcell hv hcl k1
        · cases hw
      · exact (none9 hc).elim
    | cons y t =>
      cases t with
      | cons _ _ => cases hok
      | nil =>
        dsimp only at hok
        simp only [Bool.and_eq_true, decide_eq_true_eq] at hok
        obtain ⟨⟨ok1, ok2⟩, r1, r2, r3, r4⟩ := hok
        rw [List.find?_cons] at hc
        split at hc
        · rename_i w hw
          split at hw
          · rename_i hcx
            cases hw; cases hc
            obtain ⟨h1, h2⟩ := hcv _ hcx
            obtain ⟨k1, k2, k3, k4⟩ := sd_hnd C hm ok1 hne hL (q := q) kk
            exact vx_catch hown [] _ [_] htab (fun w hw => nomatch hw) h1 k3 (hts _ k2) (hts _ (by rw [h2] at k4 ⊢; exact qCast En k4)) hcell hv hcl k1
          · rw [List.find?_cons] at hw
            split at hw
            · rename_i hcy
              cases hw; cases hc
              obtain ⟨h1, h2⟩ := hcv _ hcy
              obtain ⟨k1, k2, k3, k4⟩ := sd_hnd C hm ok2 hne hL (q := q) kk
              have hE : En = 101 := h2.symm.trans r4
              subst hE
              have hx3 : Cond.classLink (qY m).cls x.2.2.2.2.2.2.1 (qEName x.2.2.2.1) ∈ GW ∧ x.2.2.2.2.2.2.1 ≠ 0 := by
                unfold qHndOk at ok1
                simp only [Bool.and_eq_true, decide_eq_true_eq] at ok1
                exact ⟨qIsW_mem ok1.1.1.2, ok1.1.2⟩
              refine vx_catch hown [_] _ [] htab (fun w hw => Or.inr ?_) h1 k3 (hts _ k2) (hts _ (by rw [h2] at k4 ⊢; exact qCast 101 k4)) hcell hv hcl k1
              rw [List.mem_singleton.mp hw]
              refine ⟨hx3.2, qEName 102, ?_, hfx.2.2.2.2.2.2.2.2.2.1⟩
              have := hts _ hx3.1
              rwa [r3] at this
            · cases hw
        · exact (none9 hc).elim
end SND8
