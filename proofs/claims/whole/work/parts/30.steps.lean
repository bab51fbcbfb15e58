/-! ===== The small machine is sound, 4: what a step may be ===== -/
def qLe (h h' : qHp) : Prop := h.1 ≤ h'.1 ∧ h.2.1 ≤ h'.2.1
theorem qLe.rf (h : qHp) : qLe h h := ⟨Nat.le_refl _, Nat.le_refl _⟩
theorem qLe.tr {a b c : qHp} (h1 : qLe a b) (h2 : qLe b c) : qLe a c := ⟨Nat.le_trans h1.1 h2.1, Nat.le_trans h1.2 h2.2⟩
theorem qPutF_le {h h' : qHp} {ci k t a : Nat} {v : Value} (hv : qPutF h ci k t a v = some h') : qLe h h' := by
  unfold qPutF at hv
  split at hv
  · split at hv
    · cases hv; exact qLe.rf h
    · cases hv
  · cases hv
theorem qStI_le {h h' : qHp} {t a : Nat} {i x : Int32} (hv : qStI h t a i x = some h') : qLe h h' := by
  unfold qStI at hv
  split at hv
  · split at hv
    · cases hv; exact qLe.rf h
    · cases hv
  · cases hv
theorem qStL_le {h h' : qHp} {a : Nat} {i : Int32} {x : Int64} (hv : qStL h a i x = some h') : qLe h h' := by
  unfold qStL at hv
  split at hv
  · split at hv
    · cases hv; exact qLe.rf h
    · cases hv
  · cases hv
theorem qStD_le {h h' : qHp} {a : Nat} {i : Int32} {x : UInt64} (hv : qStD h a i x = some h') : qLe h h' := by
  unfold qStD at hv
  split at hv
  · split at hv
    · cases hv; exact qLe.rf h
    · cases hv
  · cases hv
theorem qStA_le {h h' : qHp} {t a v : Nat} {i : Int32} (hv : qStA h t a i v = some h') : qLe h h' := by
  unfold qStA at hv
  split at hv
  · split at hv
    · cases hv; exact qLe.rf h
    · cases hv
  · cases hv
theorem qCpy_le {h h' : qHp} {a b : Nat} {i j n : Int32} (hv : qCpy h a i b j n = some h') : qLe h h' := by
  unfold qCpy at hv
  split at hv
  · split at hv
    · cases hv; exact qLe.rf h
    · cases hv
  · cases hv
/-- which instructions the heap has -/
def qMemP (i : Instr) : Prop := (∃ k, i = .getfield k) ∨ (∃ k, i = .putfield k) ∨ i = .iaload ∨ i = .baload ∨ i = .caload ∨ i = .laload ∨ i = .daload ∨ i = .aaload ∨ i = .iastore ∨ i = .bastore ∨ i = .castore ∨ i = .lastore ∨ i = .dastore ∨ i = .aastore ∨ i = .arraylength ∨ (∃ t, i = .newarray t) ∨ ∃ k, i = .anewarray k
theorem qMem_p {G : qG} {i : Instr} {lk : List Nat} {st : List Value} {h : qHp} {x : List Value × qHp} (hm : qMem G i lk st h = some x) : qMemP i := by
  unfold qMem at hm
  unfold qMemP
  split at hm <;> first | (cases hm; done) | simp
theorem qMem_le {G : qG} {i : Instr} {lk : List Nat} {st st' : List Value} {h h' : qHp} (hm : qMem G i lk st h = some (st', h')) : qLe h h' := by
  have new : ∀ (c : qAC) (n : Nat), qLe h (qNewC h c n) := fun c n => ⟨Nat.le_succ _, Nat.le_add_right _ _⟩
  rcases qMem_p hm with ⟨k, rfl⟩ | ⟨k, rfl⟩ | rfl | rfl | rfl | rfl | rfl | rfl | rfl | rfl | rfl | rfl | rfl | rfl | rfl | ⟨t, rfl⟩ | ⟨k, rfl⟩ <;> dsimp only [qMem] at hm <;> split at hm <;> (try (cases hm; done)) <;> split at hm <;> (try (cases hm; done)) <;> (try split at hm) <;> (try (cases hm; done)) <;>
    (cases hm; first | exact qLe.rf _ | exact new _ _ | exact qPutF_le (by assumption) | exact qStI_le (by assumption) | exact qStL_le (by assumption) | exact qStD_le (by assumption) | exact qStA_le (by assumption))
/-- the ends of a method -/
def qRetP (P : qPg) (m : Nat) (i : Instr) (st : List Value) (v : Option Value) : Prop := (i = .ireturn ∧ ∃ x, st = [.int x] ∧ v = some (.int x) ∧ (P.2.2.2.2 m = 1 → x = 0 ∨ x = 1)) ∨ (i = .lreturn ∧ ∃ x, st = [.long x] ∧ v = some (.long x)) ∨ (i = .freturn ∧ ∃ x, st = [.float x] ∧ v = some (.float x)) ∨ (i = .dreturn ∧ ∃ x, st = [.double x] ∧ v = some (.double x)) ∨ (i = .areturn ∧ ∃ x, st = [.ref x] ∧ v = some (.ref x)) ∨ (i = .return_ ∧ st = [] ∧ v = none)
def qView (P : qPg) (G : qG) (m : Nat) (L : qLV) (st : List Value) (h : qHp) (act : qRes ⊕ (qFr ⊕ (qFr × (qRes → Option (qRes ⊕ qFr))))) (pc len : Nat) (i : Instr) (lk : List Nat) (cv : Value) (es : List qEnt) : Prop :=
  (i = .nop ∧ ∃ b r, lk = b :: r ∧ act = .inr (.inl (qJump P m b L st h))) ∨
  (∃ k n x, i = .iinc k n ∧ qLd L k = some (.int x) ∧ act = .inr (.inl (m, es, qS1 L k (.int (x + Int32.ofInt n)), st, h))) ∨
  (∃ a b c d x r t, i = .tableswitch a b c d ∧ st = .int x :: r ∧ qTab lk x = some t ∧ act = .inr (.inl (qJump P m t L r h))) ∨
  (∃ k w ci n r, i = .new k ∧ lk = w :: ci :: n :: r ∧ ci < 100 ∧ act = .inr (.inl (m, es, L, .ref h.1 :: st, qNewC h (.inr (ci, qBorn ci)) n))) ∨
  (∃ k w ci n r, i = .new k ∧ lk = w :: ci :: n :: r ∧ ¬ ci < 100 ∧ st = [] ∧ act = .inl (.inr ci, (h.1 + 1, h.2.1 + 6, h.2.2))) ∨
  (∃ v, qRetP P m i st v ∧ act = .inl (.inl v, h)) ∨
  (((∃ k, i = .invokevirtual k) ∨ (∃ k, i = .invokespecial k) ∨ ∃ k, i = .invokestatic k) ∧ qInv P m pc es lk L st h = some act) ∨
  (qConst i = true ∧ act = .inr (.inl (m, es, L, qCv G cv :: st, h))) ∨
  (∃ st', qOp i st = some st' ∧ act = .inr (.inl (m, es, L, st', h))) ∨
  (∃ c r b q, qBr i st = some (c, r) ∧ lk = b :: q ∧ act = (if c = true then .inr (.inl (qJump P m b L r h)) else .inr (.inl (m, es, L, r, h)))) ∨
  (∃ k v, qLdIx i = some k ∧ qLd L k = some v ∧ qLdOk i v = true ∧ act = .inr (.inl (m, es, L, v :: st, h))) ∨
  (∃ k v r, qStIx i = some k ∧ st = v :: r ∧ qStOk i v = true ∧ act = .inr (.inl (m, es, qStW L k v, r, h))) ∨
  (∃ st' h', qMem G i lk st h = some (st', h') ∧ act = .inr (.inl (m, es, L, st', h')))
theorem qStep_view {P : qPg} {G : qG} {m : Nat} {es0 : List qEnt} {L : qLV} {st : List Value} {h : qHp} {act : qRes ⊕ (qFr ⊕ (qFr × (qRes → Option (qRes ⊕ qFr))))} (hs : qStep P G (m, es0, L, st, h) = some act) :
    ∃ pc len i lk cv es, es0 = (pc, len, i, lk, cv) :: es ∧ qView P G m L st h act pc len i lk cv es := by
  unfold qStep at hs
  dsimp only at hs
  split at hs
  · cases hs
  · rename_i pc len i lk cv es
    refine ⟨pc, len, i, lk, cv, es, rfl, ?_⟩
    unfold qView
    split at hs
    · split at hs
      · cases hs; exact Or.inl ⟨rfl, _, _, rfl, rfl⟩
      · cases hs
    · split at hs
      · rename_i hv; cases hs; exact Or.inr (Or.inl ⟨_, _, _, rfl, hv, rfl⟩)
      · cases hs
    · split at hs
      · split at hs
        · rename_i hv; cases hs; exact Or.inr (Or.inr (Or.inl ⟨_, _, _, _, _, _, _, rfl, rfl, hv, rfl⟩))
        · cases hs
      · cases hs
    · split at hs
      · split at hs
        · rename_i hv; cases hs; exact Or.inr (Or.inr (Or.inr (Or.inl ⟨_, _, _, _, _, rfl, rfl, hv, rfl⟩)))
        · rename_i hv
          split at hs
          · cases hs; exact Or.inr (Or.inr (Or.inr (Or.inr (Or.inl ⟨_, _, _, _, _, rfl, rfl, hv, rfl, rfl⟩))))
          · cases hs
      · cases hs
    · split at hs
      · split at hs
        · split at hs
          · rename_i hv; cases hs; exact Or.inr (Or.inr (Or.inr (Or.inr (Or.inr (Or.inl ⟨_, Or.inl ⟨rfl, _, rfl, rfl, fun _ => hv⟩, rfl⟩)))))
          · cases hs
        · rename_i hv; cases hs; exact Or.inr (Or.inr (Or.inr (Or.inr (Or.inr (Or.inl ⟨_, Or.inl ⟨rfl, _, rfl, rfl, fun h => absurd h hv⟩, rfl⟩)))))
      · cases hs
    · split at hs
      · cases hs; exact Or.inr (Or.inr (Or.inr (Or.inr (Or.inr (Or.inl ⟨_, Or.inr (Or.inl ⟨rfl, _, rfl, rfl⟩), rfl⟩)))))
      · cases hs
    · split at hs
      · cases hs; exact Or.inr (Or.inr (Or.inr (Or.inr (Or.inr (Or.inl ⟨_, Or.inr (Or.inr (Or.inl ⟨rfl, _, rfl, rfl⟩)), rfl⟩)))))
      · cases hs
    · split at hs
      · cases hs; exact Or.inr (Or.inr (Or.inr (Or.inr (Or.inr (Or.inl ⟨_, Or.inr (Or.inr (Or.inr (Or.inl ⟨rfl, _, rfl, rfl⟩))), rfl⟩)))))
      · cases hs
    · split at hs
      · cases hs; exact Or.inr (Or.inr (Or.inr (Or.inr (Or.inr (Or.inl ⟨_, Or.inr (Or.inr (Or.inr (Or.inr (Or.inl ⟨rfl, _, rfl, rfl⟩)))), rfl⟩)))))
      · cases hs
    · split at hs
      · cases hs; exact Or.inr (Or.inr (Or.inr (Or.inr (Or.inr (Or.inl ⟨_, Or.inr (Or.inr (Or.inr (Or.inr (Or.inr ⟨rfl, rfl, rfl⟩)))), rfl⟩)))))
      · cases hs
    · exact Or.inr (Or.inr (Or.inr (Or.inr (Or.inr (Or.inr (Or.inl ⟨Or.inl ⟨_, rfl⟩, hs⟩))))))
    · exact Or.inr (Or.inr (Or.inr (Or.inr (Or.inr (Or.inr (Or.inl ⟨Or.inr (Or.inl ⟨_, rfl⟩), hs⟩))))))
    · exact Or.inr (Or.inr (Or.inr (Or.inr (Or.inr (Or.inr (Or.inl ⟨Or.inr (Or.inr ⟨_, rfl⟩), hs⟩))))))
    · split at hs
      · rename_i hv; cases hs; exact Or.inr (Or.inr (Or.inr (Or.inr (Or.inr (Or.inr (Or.inr (Or.inl ⟨hv, rfl⟩)))))))
      · split at hs
        · rename_i hv; cases hs; exact Or.inr (Or.inr (Or.inr (Or.inr (Or.inr (Or.inr (Or.inr (Or.inr (Or.inl ⟨_, hv, rfl⟩))))))))
        · split at hs
          · rename_i hv
            split at hs
            · refine Or.inr (Or.inr (Or.inr (Or.inr (Or.inr (Or.inr (Or.inr (Or.inr (Or.inr (Or.inl ⟨_, _, _, _, hv, rfl, ?_⟩)))))))))
              split at hs
              · rename_i hc; cases hs; rw [if_pos hc]
              · rename_i hc; cases hs; rw [if_neg hc]
            · cases hs
          · split at hs
            · rename_i hv
              split at hs
              · rename_i hw
                split at hs
                · rename_i hu; cases hs
                  exact Or.inr (Or.inr (Or.inr (Or.inr (Or.inr (Or.inr (Or.inr (Or.inr (Or.inr (Or.inr (Or.inl ⟨_, _, hv, hw, hu, rfl⟩))))))))))
                · cases hs
              · cases hs
            · split at hs
              · rename_i hv
                split at hs
                · split at hs
                  · rename_i hu; cases hs
                    exact Or.inr (Or.inr (Or.inr (Or.inr (Or.inr (Or.inr (Or.inr (Or.inr (Or.inr (Or.inr (Or.inr (Or.inl ⟨_, _, _, hv, rfl, hu, rfl⟩)))))))))))
                  · cases hs
                · cases hs
              · split at hs
                · rename_i hv; cases hs
                  exact Or.inr (Or.inr (Or.inr (Or.inr (Or.inr (Or.inr (Or.inr (Or.inr (Or.inr (Or.inr (Or.inr (Or.inr ⟨_, _, hv, rfl⟩)))))))))))
                · cases hs
theorem qInv_view {P : qPg} {m pc : Nat} {es : List qEnt} {lk : List Nat} {L : qLV} {st : List Value} {h : qHp} {act : qRes ⊕ (qFr ⊕ (qFr × (qRes → Option (qRes ⊕ qFr))))} (hi : qInv P m pc es lk L st h = some act) :
    (∃ lr a r, lk = 5 :: lr ∧ st = .ref a :: r ∧ qW r ≤ 8 ∧ act = .inr (.inl (m, es, L, r, h))) ∨
    (∃ lr a r fs, lk = 6 :: lr ∧ st = .ref a :: r ∧ qStr h a = some fs ∧ qW r ≤ 8 ∧ act = .inr (.inl (m, es, L, .int (Int32.ofNat fs.length) :: r, h))) ∨
    (∃ lr i a r fs v, lk = 7 :: lr ∧ st = .int i :: .ref a :: r ∧ qStr h a = some fs ∧ ¬ i < 0 ∧ fs[i.toNatClampNeg]? = some v ∧ qW r ≤ 8 ∧ act = .inr (.inl (m, es, L, v :: r, h))) ∨
    (∃ lr n j b i a r h', lk = 8 :: lr ∧ st = .int n :: .int j :: .ref b :: .int i :: .ref a :: r ∧ qCpy h a i b j n = some h' ∧ qW r ≤ 8 ∧ act = .inr (.inl (m, es, L, r, h'))) ∨
    (∃ k m' n lr, lk = k :: m' :: n :: lr ∧ (k ≠ 5 ∧ k ≠ 6 ∧ k ≠ 7 ∧ k ≠ 8) ∧ n ≤ st.length ∧ qW (st.drop n) ≤ 8 ∧ (qArgs (st.take n).reverse).length ≤ P.2.2.2.1 m' ∧ qRcv k lr h st[n - 1]? = true ∧ act = .inr (.inr (qEntry P m' (st.take n).reverse h, qBack P m pc es L (st.drop n)))) := by
  unfold qInv at hi
  split at hi
  · split at hi
    · split at hi
      · cases hi
      · rename_i hw; cases hi; exact Or.inl ⟨_, _, _, rfl, rfl, Nat.not_lt.mp hw, rfl⟩
    · cases hi
  · split at hi
    · split at hi
      · rename_i hv
        split at hi
        · cases hi
        · rename_i hw; cases hi; exact Or.inr (Or.inl ⟨_, _, _, _, rfl, rfl, hv, Nat.not_lt.mp hw, rfl⟩)
      · cases hi
    · cases hi
  · split at hi
    · split at hi
      · rename_i hv
        split at hi
        · cases hi
        · rename_i h0
          split at hi
          · rename_i hw; cases hi; exact Or.inr (Or.inr (Or.inl ⟨_, _, _, _, _, _, rfl, rfl, hv, fun q => h0 (Or.inl q), hw, Nat.not_lt.mp fun q => h0 (Or.inr q), rfl⟩))
          · cases hi
      · cases hi
    · cases hi
  · split at hi
    · split at hi
      · rename_i hv
        split at hi
        · cases hi
        · rename_i hw; cases hi; exact Or.inr (Or.inr (Or.inr (Or.inl ⟨_, _, _, _, _, _, _, _, rfl, rfl, hv, Nat.not_lt.mp hw, rfl⟩)))
      · cases hi
    · cases hi
  · rename_i k m' n lr h5 h6 h7 h8
    split at hi
    · cases hi
    · rename_i hc
      cases hi
      refine Or.inr (Or.inr (Or.inr (Or.inr ⟨k, m', n, lr, rfl, ⟨fun q => h5 (by rw [q]), fun q => h6 (by rw [q]), fun q => h7 (by rw [q]), fun q => h8 (by rw [q])⟩, ?_, ?_, ?_, ?_, rfl⟩)))
      · exact Nat.not_lt.mp fun q => hc (Or.inl q)
      · exact Nat.not_lt.mp fun q => hc (Or.inr (Or.inl q))
      · exact Nat.not_lt.mp fun q => hc (Or.inr (Or.inr (Or.inl q)))
      · exact Bool.not_eq_false _ ▸ (fun q => hc (Or.inr (Or.inr (Or.inr q))))
  · cases hi
theorem qBack_h {P : qPg} {m pc : Nat} {es : List qEnt} {L : qLV} {rest : List Value} {r : qRes} {x : qRes ⊕ qFr} (h : qBack P m pc es L rest r = some x) : (∃ r', x = .inl r' ∧ r'.2 = r.2) ∨ ∃ y, x = .inr y ∧ y.2.2.2.2 = r.2 := by
  unfold qBack at h
  split at h
  · cases h; exact Or.inr ⟨_, rfl, rfl⟩
  · cases h; exact Or.inr ⟨_, rfl, rfl⟩
  · unfold qCatch at h
    split at h
    · cases h; exact Or.inr ⟨_, rfl, rfl⟩
    · cases h; exact Or.inl ⟨_, rfl, rfl⟩
theorem qRun_mono (P : qPg) (G : qG) : ∀ (n : Nat) (x : qFr) (r : qRes), qRun P G n x = some r → qLe x.2.2.2.2 r.2 := by
  intro n
  induction n with
  | zero => intro x r h; cases h
  | succ n ih =>
    intro x r h
    obtain ⟨m, es0, L, st, hh⟩ := x
    rw [qRun] at h
    cases hs : qStep P G (m, es0, L, st, hh) with
    | none => rw [hs] at h; cases h
    | some act =>
      rw [hs] at h
      obtain ⟨pc, len, i, lk, cv, es, -, hv⟩ := qStep_view hs
      have go : ∀ y : qFr, act = .inr (.inl y) → qLe hh y.2.2.2.2 → qLe hh r.2 := fun y e hy => by
        subst e
        exact hy.tr (ih y r h)
      rcases hv with ⟨-, b, q, -, e⟩ | ⟨k, j, x, -, -, e⟩ | ⟨_, _, _, _, _, _, _, -, -, -, e⟩ | ⟨_, _, _, _, _, -, -, -, e⟩ | ⟨_, _, _, _, _, -, -, -, -, e⟩ | ⟨v, -, e⟩ | ⟨-, hi⟩ | ⟨-, e⟩ | ⟨_, -, e⟩ | ⟨c, _, _, _, -, -, e⟩ | ⟨_, _, -, -, -, e⟩ | ⟨_, _, _, -, -, -, e⟩ | ⟨_, _, hm, e⟩
      · exact go _ e (qLe.rf _)
      · exact go _ e (qLe.rf _)
      · exact go _ e (qLe.rf _)
      · exact go _ e ⟨Nat.le_succ _, Nat.le_add_right _ _⟩
      · subst e; cases h; exact ⟨Nat.le_succ _, Nat.le_add_right _ _⟩
      · subst e; cases h; exact qLe.rf _
      · rcases qInv_view hi with ⟨_, _, _, -, -, -, e⟩ | ⟨_, _, _, _, -, -, -, -, e⟩ | ⟨_, _, _, _, _, _, -, -, -, -, -, -, e⟩ | ⟨_, _, _, _, _, _, _, h', -, -, hc, -, e⟩ | ⟨k, m', n', lr, -, -, -, -, -, -, e⟩
        · exact go _ e (qLe.rf _)
        · exact go _ e (qLe.rf _)
        · exact go _ e (qLe.rf _)
        · exact go _ e (qCpy_le hc)
        · subst e
          dsimp only at h
          cases h1 : qRun P G n (qEntry P m' (st.take n').reverse hh) with
          | none => rw [h1] at h; cases h
          | some r1 =>
            rw [h1] at h
            dsimp only at h
            have hle : qLe hh r1.2 := ih _ _ h1
            cases h2 : qBack P m pc es L (st.drop n') r1 with
            | none => rw [h2] at h; cases h
            | some x =>
              rw [h2] at h
              rcases qBack_h h2 with ⟨r', e, e2⟩ | ⟨y, e, e2⟩
              · subst e; cases h; rw [e2]; exact hle
              · subst e; have := ih _ _ h; rw [e2] at this; exact hle.tr this
      · exact go _ e (qLe.rf _)
      · exact go _ e (qLe.rf _)
      · split at e
        · exact go _ e (qLe.rf _)
        · exact go _ e (qLe.rf _)
      · exact go _ e (qLe.rf _)
      · exact go _ e (qLe.rf _)
      · exact go _ e (qMem_le hm)
theorem qRun_ne {P : qPg} {G : qG} {n m : Nat} {es : List qEnt} {L : qLV} {st : List Value} {h : qHp} {r : qRes} (hr : qRun P G n (m, es, L, st, h) = some r) : es ≠ [] := by
  rintro rfl
  cases n with
  | zero => cases hr
  | succ n => rw [qRun] at hr; cases hr
