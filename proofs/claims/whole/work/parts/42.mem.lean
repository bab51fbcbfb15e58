/-! ===== A heap of fixed shapes over a memory of numbers ===== -/
/-- an object (its number, its fields: 0 an int, 1 a long, (2, a) the reference a, 3 null), an array of numbers (tag, length), an array of references -/
abbrev qSh : Type := (Nat × List (Nat × Nat)) ⊕ (Nat × Nat) ⊕ (Nat × Nat × (Nat → Option Nat))
abbrev qMu : Type := Nat → Nat → Int64
def qVal (fd : Nat × Nat) (x : Int64) : Value := match fd.1 with
  | 0 => .int x.toInt32
  | 1 => .long x
  | 2 => .ref fd.2
  | _ => .null
def qCell (sh : qSh) (d : Nat → Int64) : qAC := match sh with
  | .inl (ci, fds) => .inr (ci, fds.mapIdx (fun k fd => qVal fd (d k)))
  | .inr (.inl (t, n)) => .inl (t, n, if t = 1 then .inr (.inl d) else if t = 5 then .inr (.inr (.inr (.inl (fun j => (d j).toUInt64)))) else .inl (fun j => (d j).toInt32))
  | .inr (.inr (t, n, f)) => .inl (t, n, .inr (.inr (.inr (.inr f))))
def MK (y : Nat → Option qSh) (μ : qMu) (n s : Nat) : qHp := (n, s, fun a => (y a).map (fun sh => qCell sh (μ a)))
/-- one number of a cell; a whole cell -/
def sv (d : Nat → Int64) (k : Nat) (v : Int64) : Nat → Int64 := fun j => if j = k then v else d j
def stc (μ : qMu) (a : Nat) (d : Nat → Int64) : qMu := fun q => if q = a then d else μ q
theorem sv_get (d : Nat → Int64) (k j : Nat) (v : Int64) : sv d k v j = if j = k then v else d j := rfl
theorem stc_get (μ : qMu) (a q : Nat) (d : Nat → Int64) : stc μ a d q = if q = a then d else μ q := rfl
theorem stc_stc (μ : qMu) (a : Nat) (d d' : Nat → Int64) : stc (stc μ a d) a d' = stc μ a d' := by
  funext q
  unfold stc
  split <;> rfl
theorem stc_self (μ : qMu) (a : Nat) : stc μ a (μ a) = μ := by
  funext q
  unfold stc
  split
  · rename_i h; rw [h]
  · rfl
theorem sv_self (d : Nat → Int64) (k : Nat) : sv d k (d k) = d := by
  funext j
  unfold sv
  split
  · rename_i h; rw [h]
  · rfl
theorem i64_32 (x : Int32) : x.toInt64.toInt32 = x := by simp
section MEM
variable {y : Nat → Option qSh} {μ : qMu} {n s a : Nat} {ci k t : Nat} {fds : List (Nat × Nat)}
theorem MK_1 : (MK y μ n s).1 = n := rfl
theorem MK_21 : (MK y μ n s).2.1 = s := rfl
theorem g_get (hy : y a = some (.inl (ci, fds))) : qGetF (MK y μ n s) ci k a = (fds[k]?).map (fun fd => qVal fd (μ a k)) := by
  unfold qGetF MK
  simp [hy, qCell]
theorem MK_at : (MK y μ n s).2.2 a = (y a).map (fun sh => qCell sh (μ a)) := rfl
theorem MK_set {sh : qSh} {d : Nat → Int64} (hy : y a = some sh) : qSetC (MK y μ n s) a (qCell sh d) = MK y (stc μ a d) n s := by
  unfold qSetC MK
  refine congrArg (fun z => (n, s, z)) ?_
  funext q
  by_cases hq : q = a
  · subst hq
    simp [hy, stc]
  · simp [hq, stc]
theorem qCell_set {v : Value} {w : Int64} {fd : Nat × Nat} {d : Nat → Int64} (hk : fds[k]? = some fd) (hv : qVal fd w = v) : (.inr (ci, (fds.mapIdx (fun k fd => qVal fd (d k))).set k v) : qAC) = qCell (.inl (ci, fds)) (sv d k w) := by
  have hl : k < fds.length := (List.getElem?_eq_some_iff.mp hk).1
  unfold qCell
  dsimp only
  refine congrArg (fun z => (Sum.inr (ci, z) : qAC)) ?_
  apply List.ext_getElem?
  intro j
  rw [List.getElem?_set, List.getElem?_mapIdx, List.getElem?_mapIdx]
  by_cases hj : k = j
  · subst hj
    rw [if_pos rfl, if_pos (by simpa using hl), hk]
    simp [sv, hv]
  · rw [if_neg hj]
    simp [sv, Ne.symm hj]
theorem g_put {v : Value} {w : Int64} {fd : Nat × Nat} (hy : y a = some (.inl (ci, fds))) (hk : fds[k]? = some fd) (hv : qVal fd w = v) (hf : qFit t v = true) : qPutF (MK y μ n s) ci k t a v = some (MK y (stc μ a (sv (μ a) k w)) n s) := by
  have hl : k < fds.length := (List.getElem?_eq_some_iff.mp hk).1
  unfold qPutF
  rw [MK_at, hy]
  dsimp only [Option.map, qCell]
  rw [if_pos ⟨rfl, by simpa using hl, hf⟩, qCell_set hk hv, MK_set hy]
theorem g_putI {x : Int32} {z : Nat} (hy : y a = some (.inl (ci, fds))) (hk : fds[k]? = some (0, z)) : qPutF (MK y μ n s) ci k 0 a (.int x) = some (MK y (stc μ a (sv (μ a) k x.toInt64)) n s) := g_put hy hk (by simp [qVal]) rfl
theorem g_putL {x : Int64} {z : Nat} (hy : y a = some (.inl (ci, fds))) (hk : fds[k]? = some (1, z)) : qPutF (MK y μ n s) ci k 1 a (.long x) = some (MK y (stc μ a (sv (μ a) k x)) n s) := g_put hy hk rfl rfl
/-- an index within, as a number -/
def ixok (i : Int32) (n : Nat) : Prop := 0 ≤ i ∧ i.toNatClampNeg < n
theorem qIn_ok {i : Int32} {n : Nat} (h : ixok i n) : qIn i n = true := by
  unfold qIn
  have h1 : ¬ i < 0 := Int32.not_lt.mpr h.1
  have h2 : ¬ n ≤ i.toNatClampNeg := Nat.not_le.mpr h.2
  simp [h1, h2]
theorem g_ldL {l : Nat} {i : Int32} (hy : y a = some (.inr (.inl (1, l)))) (hi : ixok i l) : qLdL (MK y μ n s) a i = some (μ a i.toNatClampNeg) := by
  unfold qLdL MK
  simp [hy, qCell, qIn_ok hi]
theorem g_ldD {l : Nat} {i : Int32} (hy : y a = some (.inr (.inl (5, l)))) (hi : ixok i l) : qLdD (MK y μ n s) a i = some (μ a i.toNatClampNeg).toUInt64 := by
  unfold qLdD MK
  simp [hy, qCell, qIn_ok hi]
theorem g_ldI {l : Nat} {i : Int32} (hy : y a = some (.inr (.inl (t, l)))) (ht : t ≠ 1 ∧ t ≠ 5) (hi : ixok i l) : qLdI (MK y μ n s) t a i = some (μ a i.toNatClampNeg).toInt32 := by
  unfold qLdI MK
  simp [hy, qCell, qIn_ok hi, ht.1, ht.2]
theorem g_ldA {l : Nat} {f : Nat → Option Nat} {i : Int32} (hy : y a = some (.inr (.inr (t, l, f)))) (hi : ixok i l) : qLdA (MK y μ n s) t a i = some (va_rf (f i.toNatClampNeg)) := by
  unfold qLdA MK
  simp [hy, qCell, qIn_ok hi]
theorem g_stL {l : Nat} {i : Int32} {x : Int64} (hy : y a = some (.inr (.inl (1, l)))) (hi : ixok i l) : qStL (MK y μ n s) a i x = some (MK y (stc μ a (sv (μ a) i.toNatClampNeg x)) n s) := by
  unfold qStL
  rw [MK_at, hy]
  dsimp only [Option.map, qCell]
  rw [if_pos rfl]
  change (if qIn i l = true then some (qSetC (MK y μ n s) a (.inl (1, l, .inr (.inl (vp_updL (μ a) i.toNatClampNeg x))))) else none) = _
  rw [if_pos (qIn_ok hi), ← MK_set hy]
  rfl
theorem g_stD {l : Nat} {i : Int32} {x : UInt64} (hy : y a = some (.inr (.inl (5, l)))) (hi : ixok i l) : qStD (MK y μ n s) a i x = some (MK y (stc μ a (sv (μ a) i.toNatClampNeg x.toInt64)) n s) := by
  unfold qStD
  rw [MK_at, hy]
  dsimp only [Option.map, qCell]
  rw [if_neg (by decide), if_pos rfl]
  change (if qIn i l = true then some (qSetC (MK y μ n s) a (.inl (5, l, .inr (.inr (.inr (.inl (vf_upd (fun j => (μ a j).toUInt64) i.toNatClampNeg x))))))) else none) = _
  rw [if_pos (qIn_ok hi), ← MK_set hy]
  refine congrArg some (congrArg (qSetC _ a) ?_)
  unfold qCell
  dsimp only
  rw [if_neg (by decide), if_pos rfl]
  refine congrArg (fun z => (Sum.inl (5, l, .inr (.inr (.inr (.inl z)))) : qAC)) ?_
  funext j
  unfold vf_upd sv
  by_cases hj : j = i.toNatClampNeg
  · simp [hj]
  · simp [hj]
theorem g_stI {l : Nat} {i : Int32} {x : Int32} (hy : y a = some (.inr (.inl (t, l)))) (ht : t ≠ 1 ∧ t ≠ 5) (hi : ixok i l) : qStI (MK y μ n s) t a i x = some (MK y (stc μ a (sv (μ a) i.toNatClampNeg x.toInt64)) n s) := by
  unfold qStI
  rw [MK_at, hy]
  dsimp only [Option.map, qCell]
  rw [if_neg ht.1, if_neg ht.2]
  dsimp only
  rw [if_pos ⟨rfl, qIn_ok hi⟩, ← MK_set hy]
  refine congrArg some (congrArg (qSetC _ a) ?_)
  unfold qCell
  dsimp only
  rw [if_neg ht.1, if_neg ht.2]
  refine congrArg (fun z => (Sum.inl (t, l, .inl z) : qAC)) ?_
  funext j
  unfold upd sv
  by_cases hj : j = i.toNatClampNeg
  · simp [hj]
  · simp [hj]
/-- a copy of longs -/
theorem g_cpy {b l0 l1 : Nat} {i j c : Int32} (hy : y a = some (.inr (.inl (1, l0)))) (hb : y b = some (.inr (.inl (1, l1)))) (hab : a ≠ b) (hi : 0 ≤ i) (hj : 0 ≤ j) (hc : 0 ≤ c) (h0 : i.toNatClampNeg + c.toNatClampNeg ≤ l0) (h1 : j.toNatClampNeg + c.toNatClampNeg ≤ l1) : qCpy (MK y μ n s) a i b j c = some (MK y (stc μ b (va_cpy (μ a) (μ b) i.toNatClampNeg j.toNatClampNeg c.toNatClampNeg)) n s) := by
  unfold qCpy
  rw [MK_at, MK_at, hy, hb]
  dsimp only [Option.map, qCell]
  rw [if_pos rfl, if_pos rfl]
  change (if a ≠ b ∧ 0 ≤ i ∧ 0 ≤ j ∧ 0 ≤ c ∧ i.toNatClampNeg + c.toNatClampNeg ≤ l0 ∧ j.toNatClampNeg + c.toNatClampNeg ≤ l1 then some (qSetC (MK y μ n s) b (.inl (1, l1, .inr (.inl (va_cpy (μ a) (μ b) i.toNatClampNeg j.toNatClampNeg c.toNatClampNeg))))) else none) = _
  rw [if_pos ⟨hab, hi, hj, hc, h0, h1⟩, ← MK_set hb]
  rfl
end MEM
