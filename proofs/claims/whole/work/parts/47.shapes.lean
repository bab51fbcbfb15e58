/-! ===== The shapes of the objects; a Book's cells ===== -/
def shF (ci a : Nat) : List (Nat × Nat) := match ci with
  | 0 => [(0, 0), (1, 0), (0, 0), (0, 0), (0, 0), (0, 0), (0, 0), (0, 0), (2, a + 1), (2, a + 2), (2, a + 3), (2, a + 4), (2, a + 5), (2, a + 6), (2, a + 7)]
  | 1 => [(2, a + 1), (2, a + 2), (2, a + 3), (2, a + 4), (0, 0)]
  | 2 => [(1, 0), (1, 0), (0, 0), (0, 0), (0, 0), (0, 0)]
  | 3 => [(2, a + 1), (2, a + 42), (2, a + 43), (0, 0)]
  | 4 => [(1, 0), (0, 0), (0, 0), (0, 0), (0, 0), (0, 0)]
  | 5 => [(2, a + 1), (0, 0), (0, 0)]
  | 6 => [(2, a + 1), (0, 0), (0, 0)]
  | 7 => [(0, 0), (0, 0), (0, 0), (0, 0), (0, 0)]
  | 8 => [(2, a + 1), (2, a + 2), (0, 0), (0, 0), (0, 0), (0, 0), (0, 0), (0, 0)]
  | 9 => [(2, a + 1), (2, a + 42), (2, a + 85), (2, a + 415), (2, a + 459), (2, a + 464)]
  | 10 => [(2, a + 1), (2, a + 2), (2, a + 3), (2, a + 4), (2, a + 5), (2, a + 6), (0, 0), (0, 0), (2, a + 7), (0, 0), (0, 0), (0, 0), (0, 0), (0, 0), (0, 0), (0, 0), (0, 0), (2, a + 8), (2, a + 9), (2, a + 10), (2, a + 11), (2, a + 12), (2, a + 13), (2, a + 14)]
  | _ => []
/-- the kind of a field; how many there are -/
def shK (ci k a : Nat) : Nat × Nat := (shF ci a).getD k (9, 0)
def shN (ci : Nat) : Nat := (shF ci 0).length
theorem shF_len : ∀ (ci a : Nat), (shF ci a).length = shN ci
  | 0, _ => rfl
  | 1, _ => rfl
  | 2, _ => rfl
  | 3, _ => rfl
  | 4, _ => rfl
  | 5, _ => rfl
  | 6, _ => rfl
  | 7, _ => rfl
  | 8, _ => rfl
  | 9, _ => rfl
  | 10, _ => rfl
  | _ + 11, _ => rfl
theorem fn_0 : shN 0 = 15 := rfl
theorem f_0_0 {a : Nat} : shK 0 0 a = (0, 0) := rfl
theorem f_0_1 {a : Nat} : shK 0 1 a = (1, 0) := rfl
theorem f_0_2 {a : Nat} : shK 0 2 a = (0, 0) := rfl
theorem f_0_3 {a : Nat} : shK 0 3 a = (0, 0) := rfl
theorem f_0_4 {a : Nat} : shK 0 4 a = (0, 0) := rfl
theorem f_0_5 {a : Nat} : shK 0 5 a = (0, 0) := rfl
theorem f_0_6 {a : Nat} : shK 0 6 a = (0, 0) := rfl
theorem f_0_7 {a : Nat} : shK 0 7 a = (0, 0) := rfl
theorem f_0_8 {a : Nat} : shK 0 8 a = (2, a + 1) := rfl
theorem f_0_9 {a : Nat} : shK 0 9 a = (2, a + 2) := rfl
theorem f_0_10 {a : Nat} : shK 0 10 a = (2, a + 3) := rfl
theorem f_0_11 {a : Nat} : shK 0 11 a = (2, a + 4) := rfl
theorem f_0_12 {a : Nat} : shK 0 12 a = (2, a + 5) := rfl
theorem f_0_13 {a : Nat} : shK 0 13 a = (2, a + 6) := rfl
theorem f_0_14 {a : Nat} : shK 0 14 a = (2, a + 7) := rfl
theorem fn_1 : shN 1 = 5 := rfl
theorem f_1_0 {a : Nat} : shK 1 0 a = (2, a + 1) := rfl
theorem f_1_1 {a : Nat} : shK 1 1 a = (2, a + 2) := rfl
theorem f_1_2 {a : Nat} : shK 1 2 a = (2, a + 3) := rfl
theorem f_1_3 {a : Nat} : shK 1 3 a = (2, a + 4) := rfl
theorem f_1_4 {a : Nat} : shK 1 4 a = (0, 0) := rfl
theorem fn_2 : shN 2 = 6 := rfl
theorem f_2_0 {a : Nat} : shK 2 0 a = (1, 0) := rfl
theorem f_2_1 {a : Nat} : shK 2 1 a = (1, 0) := rfl
theorem f_2_2 {a : Nat} : shK 2 2 a = (0, 0) := rfl
theorem f_2_3 {a : Nat} : shK 2 3 a = (0, 0) := rfl
theorem f_2_4 {a : Nat} : shK 2 4 a = (0, 0) := rfl
theorem f_2_5 {a : Nat} : shK 2 5 a = (0, 0) := rfl
theorem fn_3 : shN 3 = 4 := rfl
theorem f_3_0 {a : Nat} : shK 3 0 a = (2, a + 1) := rfl
theorem f_3_1 {a : Nat} : shK 3 1 a = (2, a + 42) := rfl
theorem f_3_2 {a : Nat} : shK 3 2 a = (2, a + 43) := rfl
theorem f_3_3 {a : Nat} : shK 3 3 a = (0, 0) := rfl
theorem fn_4 : shN 4 = 6 := rfl
theorem f_4_0 {a : Nat} : shK 4 0 a = (1, 0) := rfl
theorem f_4_1 {a : Nat} : shK 4 1 a = (0, 0) := rfl
theorem f_4_2 {a : Nat} : shK 4 2 a = (0, 0) := rfl
theorem f_4_3 {a : Nat} : shK 4 3 a = (0, 0) := rfl
theorem f_4_4 {a : Nat} : shK 4 4 a = (0, 0) := rfl
theorem f_4_5 {a : Nat} : shK 4 5 a = (0, 0) := rfl
theorem fn_5 : shN 5 = 3 := rfl
theorem f_5_0 {a : Nat} : shK 5 0 a = (2, a + 1) := rfl
theorem f_5_1 {a : Nat} : shK 5 1 a = (0, 0) := rfl
theorem f_5_2 {a : Nat} : shK 5 2 a = (0, 0) := rfl
theorem fn_6 : shN 6 = 3 := rfl
theorem f_6_0 {a : Nat} : shK 6 0 a = (2, a + 1) := rfl
theorem f_6_1 {a : Nat} : shK 6 1 a = (0, 0) := rfl
theorem f_6_2 {a : Nat} : shK 6 2 a = (0, 0) := rfl
theorem fn_7 : shN 7 = 5 := rfl
theorem f_7_0 {a : Nat} : shK 7 0 a = (0, 0) := rfl
theorem f_7_1 {a : Nat} : shK 7 1 a = (0, 0) := rfl
theorem f_7_2 {a : Nat} : shK 7 2 a = (0, 0) := rfl
theorem f_7_3 {a : Nat} : shK 7 3 a = (0, 0) := rfl
theorem f_7_4 {a : Nat} : shK 7 4 a = (0, 0) := rfl
theorem fn_8 : shN 8 = 8 := rfl
theorem f_8_0 {a : Nat} : shK 8 0 a = (2, a + 1) := rfl
theorem f_8_1 {a : Nat} : shK 8 1 a = (2, a + 2) := rfl
theorem f_8_2 {a : Nat} : shK 8 2 a = (0, 0) := rfl
theorem f_8_3 {a : Nat} : shK 8 3 a = (0, 0) := rfl
theorem f_8_4 {a : Nat} : shK 8 4 a = (0, 0) := rfl
theorem f_8_5 {a : Nat} : shK 8 5 a = (0, 0) := rfl
theorem f_8_6 {a : Nat} : shK 8 6 a = (0, 0) := rfl
theorem f_8_7 {a : Nat} : shK 8 7 a = (0, 0) := rfl
theorem fn_9 : shN 9 = 6 := rfl
theorem f_9_0 {a : Nat} : shK 9 0 a = (2, a + 1) := rfl
theorem f_9_1 {a : Nat} : shK 9 1 a = (2, a + 42) := rfl
theorem f_9_2 {a : Nat} : shK 9 2 a = (2, a + 85) := rfl
theorem f_9_3 {a : Nat} : shK 9 3 a = (2, a + 415) := rfl
theorem f_9_4 {a : Nat} : shK 9 4 a = (2, a + 459) := rfl
theorem f_9_5 {a : Nat} : shK 9 5 a = (2, a + 464) := rfl
theorem fn_10 : shN 10 = 24 := rfl
theorem f_10_0 {a : Nat} : shK 10 0 a = (2, a + 1) := rfl
theorem f_10_1 {a : Nat} : shK 10 1 a = (2, a + 2) := rfl
theorem f_10_2 {a : Nat} : shK 10 2 a = (2, a + 3) := rfl
theorem f_10_3 {a : Nat} : shK 10 3 a = (2, a + 4) := rfl
theorem f_10_4 {a : Nat} : shK 10 4 a = (2, a + 5) := rfl
theorem f_10_5 {a : Nat} : shK 10 5 a = (2, a + 6) := rfl
theorem f_10_6 {a : Nat} : shK 10 6 a = (0, 0) := rfl
theorem f_10_7 {a : Nat} : shK 10 7 a = (0, 0) := rfl
theorem f_10_8 {a : Nat} : shK 10 8 a = (2, a + 7) := rfl
theorem f_10_9 {a : Nat} : shK 10 9 a = (0, 0) := rfl
theorem f_10_10 {a : Nat} : shK 10 10 a = (0, 0) := rfl
theorem f_10_11 {a : Nat} : shK 10 11 a = (0, 0) := rfl
theorem f_10_12 {a : Nat} : shK 10 12 a = (0, 0) := rfl
theorem f_10_13 {a : Nat} : shK 10 13 a = (0, 0) := rfl
theorem f_10_14 {a : Nat} : shK 10 14 a = (0, 0) := rfl
theorem f_10_15 {a : Nat} : shK 10 15 a = (0, 0) := rfl
theorem f_10_16 {a : Nat} : shK 10 16 a = (0, 0) := rfl
theorem f_10_17 {a : Nat} : shK 10 17 a = (2, a + 8) := rfl
theorem f_10_18 {a : Nat} : shK 10 18 a = (2, a + 9) := rfl
theorem f_10_19 {a : Nat} : shK 10 19 a = (2, a + 10) := rfl
theorem f_10_20 {a : Nat} : shK 10 20 a = (2, a + 11) := rfl
theorem f_10_21 {a : Nat} : shK 10 21 a = (2, a + 12) := rfl
theorem f_10_22 {a : Nat} : shK 10 22 a = (2, a + 13) := rfl
theorem f_10_23 {a : Nat} : shK 10 23 a = (2, a + 14) := rfl
/-- references one after the other -/
def rfs (a n : Nat) : Nat → Option Nat := fun i => if i < n then some (a + i) else none
/-- the cells of a Book at b -/
def BL (y : Nat → Option qSh) (b : Nat) : Prop := y b = some (.inl (0, shF 0 b)) ∧ y (b + 1) = some (.inr (.inl (1, 4))) ∧ y (b + 2) = some (.inr (.inl (1, 6))) ∧ y (b + 3) = some (.inr (.inr (12, 10, rfs (b + 9) 10))) ∧ y (b + 4) = some (.inr (.inr (14, 6, rfs (b + 19) 6))) ∧ y (b + 5) = some (.inr (.inr (17, 4, rfs (b + 25) 4))) ∧ y (b + 6) = some (.inr (.inr (17, 12, rfs (b + 29) 12))) ∧ y (b + 7) = some (.inl (6, shF 6 (b + 7))) ∧ y (b + 8) = some (.inr (.inl (1, 200))) ∧ (∀ i, i < 10 → y (b + 9 + i) = some (.inl (2, shF 2 (b + 9 + i)))) ∧ (∀ i, i < 6 → y (b + 19 + i) = some (.inl (4, shF 4 (b + 19 + i)))) ∧ (∀ i, i < 4 → y (b + 25 + i) = some (.inl (7, shF 7 (b + 25 + i)))) ∧ ∀ i, i < 12 → y (b + 29 + i) = some (.inl (7, shF 7 (b + 29 + i)))
section GR
variable {y : Nat → Option qSh} {μ : qMu} {n s a : Nat} {ci k t : Nat}
/-- an array's length, what a row of references refers to -/
def lnO (y : Nat → Option qSh) (a : Nat) : Nat := match y a with
  | some (.inr (.inl (_, l))) => l
  | some (.inr (.inr (_, l, _))) => l
  | _ => 0
def rfO (y : Nat → Option qSh) (a : Nat) : Nat → Option Nat := match y a with
  | some (.inr (.inr (_, _, f))) => f
  | _ => fun _ => none
theorem shK_at (hk : k < shN ci) : (shF ci a)[k]? = some (shK ci k a) := by
  have hl : k < (shF ci a).length := by rw [shF_len]; exact hk
  unfold shK
  rw [List.getD_eq_getElem?_getD, List.getElem?_eq_getElem hl]
  rfl
theorem x_get (hy : y a = some (.inl (ci, shF ci a))) (hk : k < shN ci) : qGetF (MK y μ n s) ci k a = some (qVal (shK ci k a) (μ a k)) := by
  rw [g_get hy, shK_at hk]
  rfl
theorem x_putI {x : Int32} (hy : y a = some (.inl (ci, shF ci a))) (hk : k < shN ci) (h0 : (shK ci k a).1 = 0) : qPutF (MK y μ n s) ci k 0 a (.int x) = some (MK y (stc μ a (sv (μ a) k x.toInt64)) n s) := by
  have h := shK_at (a := a) hk
  generalize shK ci k a = fd at h h0
  obtain ⟨u, v⟩ := fd
  dsimp only at h0
  subst h0
  exact g_putI hy h
theorem x_putL {x : Int64} (hy : y a = some (.inl (ci, shF ci a))) (hk : k < shN ci) (h0 : (shK ci k a).1 = 1) : qPutF (MK y μ n s) ci k 1 a (.long x) = some (MK y (stc μ a (sv (μ a) k x)) n s) := by
  have h := shK_at (a := a) hk
  generalize shK ci k a = fd at h h0
  obtain ⟨u, v⟩ := fd
  dsimp only at h0
  subst h0
  exact g_putL hy h
theorem x_ldL {i : Int32} (hy : y a = some (.inr (.inl (1, lnO y a)))) (hi : ixok i (lnO y a)) : qLdL (MK y μ n s) a i = some (μ a i.toNatClampNeg) := g_ldL hy hi
theorem x_ldI {i : Int32} (hy : y a = some (.inr (.inl (t, lnO y a)))) (ht : t ≠ 1 ∧ t ≠ 5) (hi : ixok i (lnO y a)) : qLdI (MK y μ n s) t a i = some (μ a i.toNatClampNeg).toInt32 := g_ldI hy ht hi
theorem x_ldA {i : Int32} (hy : y a = some (.inr (.inr (t, lnO y a, rfO y a)))) (hi : ixok i (lnO y a)) : qLdA (MK y μ n s) t a i = some (va_rf (rfO y a i.toNatClampNeg)) := g_ldA hy hi
theorem x_stL {i : Int32} {x : Int64} (hy : y a = some (.inr (.inl (1, lnO y a)))) (hi : ixok i (lnO y a)) : qStL (MK y μ n s) a i x = some (MK y (stc μ a (sv (μ a) i.toNatClampNeg x)) n s) := g_stL hy hi
theorem x_stI {i x : Int32} (hy : y a = some (.inr (.inl (t, lnO y a)))) (ht : t ≠ 1 ∧ t ≠ 5) (hi : ixok i (lnO y a)) : qStI (MK y μ n s) t a i x = some (MK y (stc μ a (sv (μ a) i.toNatClampNeg x.toInt64)) n s) := g_stI hy ht hi
theorem x_isO (hy : y a = some (.inl (ci, shF ci a))) : qIsO (MK y μ n s) ci a = true := by
  unfold qIsO
  rw [MK_at, hy]
  simp [qCell]
theorem ixok_n {i l : Nat} (h : i < l) (hl : l < 2 ^ 31) : ixok (nI i) l := ⟨by
  have := nI_toInt (n := i) (by omega)
  rw [Int32.le_iff_toInt_le, this]
  simp, by rw [nI_clamp (by omega)]; exact h⟩
end GR
-- the parts of a frame
theorem ld_Z {v : Value} {L : qLV} : qLd (some v :: L) 0 = some v := rfl
theorem ld_S {v : Option Value} {L : qLV} {k : Nat} : qLd (v :: L) (k + 1) = qLd L k := rfl
theorem kl_Z {L : qLV} : qKill L 0 = L := rfl
theorem kl_i {k : Nat} {L : qLV} {x : Int32} (h : L[k]? = some (some (.int x))) : qKill L (k + 1) = L := by unfold qKill; simp [h, Value.category]
theorem pd_0 {L : qLV} : qPad 0 L = L := by simp [qPad]
theorem pd_c {v : Option Value} {L : qLV} {n : Nat} : qPad (n + 1) (v :: L) = v :: qPad n L := by simp [qPad]
theorem pd_n {n : Nat} : qPad (n + 1) [] = none :: qPad n [] := by simp [qPad, List.replicate_succ]
theorem ag_i {x : Int32} {r : List Value} : qArgs (.int x :: r) = some (.int x) :: qArgs r := rfl
theorem ag_r {x : Nat} {r : List Value} : qArgs (.ref x :: r) = some (.ref x) :: qArgs r := rfl
theorem ag_l {x : Int64} {r : List Value} : qArgs (.long x :: r) = some (.long x) :: none :: qArgs r := rfl
theorem ag_n : qArgs [] = [] := rfl
/-- a store into a local -/
def st1 (L : qLV) (k : Nat) (v : Value) : qLV := match k, L with
  | 0, _ :: L => some v :: L
  | 1, a :: L => (match a with
      | some x => if x.category = 2 then none else some x
      | none => none) :: (match L with
      | _ :: L => some v :: L
      | [] => [])
  | k + 2, a :: L => a :: st1 L (k + 1) v
  | _, [] => []
theorem st1_eq : ∀ (k : Nat) (L : qLV) (v : Value), qS1 L k v = st1 L k v
  | 0, [], v => rfl
  | 0, a :: L, v => rfl
  | 1, [], v => rfl
  | 1, [a], v => by
    unfold qS1 qKill st1
    cases a with
    | none => rfl
    | some x => simp; split <;> rfl
  | 1, a :: b :: L, v => by
    unfold qS1 qKill st1
    cases a with
    | none => rfl
    | some x => simp; split <;> rfl
  | k + 2, [], v => by simp [qS1, qKill, st1]
  | k + 2, a :: L, v => by
    have h := st1_eq (k + 1) L v
    unfold st1
    rw [← h]
    unfold qS1 qKill
    simp only [List.getElem?_cons_succ]
    cases hq : L[k]? with
    | none => rfl
    | some w =>
      cases w with
      | none => rfl
      | some x =>
        dsimp only
        split <;> rfl
theorem st_Z {a : Option Value} {L : qLV} {v : Value} : qS1 (a :: L) 0 v = some v :: L := rfl
theorem st_On {L : qLV} {b : Option Value} {v : Value} : qS1 (none :: b :: L) 1 v = none :: some v :: L := rfl
theorem st_Oi {L : qLV} {b : Option Value} {v : Value} {x : Int32} : qS1 (some (.int x) :: b :: L) 1 v = some (.int x) :: some v :: L := rfl
theorem st_Or {L : qLV} {b : Option Value} {v : Value} {x : Nat} : qS1 (some (.ref x) :: b :: L) 1 v = some (.ref x) :: some v :: L := rfl
theorem st_Ol {L : qLV} {b : Option Value} {v : Value} {x : Int64} : qS1 (some (.long x) :: b :: L) 1 v = none :: some v :: L := rfl
theorem st_S {a : Option Value} {L : qLV} {v : Value} {k : Nat} : qS1 (a :: L) (k + 2) v = a :: qS1 L (k + 1) v := by rw [st1_eq, st1_eq, st1]
theorem s2_eq {L : qLV} {k : Nat} {v : Value} : qS2 L k v = (qS1 L k v).set (k + 1) none := rfl
theorem mk_t {bs : List Bool} {v : Option Value} {L : qLV} : qMask (true :: bs) (v :: L) = v :: qMask bs L := rfl
theorem mk_f {bs : List Bool} {v : Option Value} {L : qLV} : qMask (false :: bs) (v :: L) = none :: qMask bs L := rfl
theorem mk_n : qMask [] [] = [] := rfl
theorem cl_v {P : qPg} {G : qG} {m pc : Nat} {es : List qEnt} {L : qLV} {rest : List Value} {v : Value} {h : qHp} : qCall P G m pc es L rest (some (.inl (some v), h)) = qR P G (m, es, L, v :: rest, h) := rfl
theorem cl_n {P : qPg} {G : qG} {m pc : Nat} {es : List qEnt} {L : qLV} {rest : List Value} {h : qHp} : qCall P G m pc es L rest (some (.inl none, h)) = qR P G (m, es, L, rest, h) := rfl
theorem cl_if {P : qPg} {G : qG} {m pc : Nat} {es : List qEnt} {L : qLV} {rest : List Value} {c : Prop} [Decidable c] {x z : Option qRes} : qCall P G m pc es L rest (if c then x else z) = if c then qCall P G m pc es L rest x else qCall P G m pc es L rest z := by split <;> rfl
theorem cl_e {G : qG} {m pc : Nat} {es : List qEnt} {L : qLV} {rest : List Value} {E : Nat} {h : qHp} (hh : tH.getD m [] = []) : qCall PG G m pc es L rest (some (.inr E, h)) = some (.inr E, h) := by
  unfold qCall PG
  simp only [hh]
theorem vl_0 {z : Nat} {x : Int64} : qVal (0, z) x = .int x.toInt32 := rfl
theorem vl_1 {z : Nat} {x : Int64} : qVal (1, z) x = .long x := rfl
theorem vl_2 {z : Nat} {x : Int64} : qVal (2, z) x = .ref z := rfl
theorem cv_i {G : qG} {x : Int32} : qCv G (.int x) = .int x := rfl
theorem cv_l {G : qG} {x : Int64} : qCv G (.long x) = .long x := rfl
theorem cv_d {G : qG} {x : UInt64} : qCv G (.double x) = .double x := rfl
theorem cv_f {G : qG} {x : UInt32} : qCv G (.float x) = .float x := rfl
theorem rf_s {a : Nat} : va_rf (some a) = .ref a := rfl
theorem rfs_lt {a n i : Nat} (h : i < n) : rfs a n i = some (a + i) := by unfold rfs; rw [if_pos h]
/-! ===== numbers ===== -/
theorem mI_inc {i : Nat} : nI i + Int32.ofInt 1 = nI (i + 1) := (nI_succ i).symm
theorem mI_lt {i k : Nat} (hi : i < 2 ^ 31) (hk : k < 2 ^ 31) : (nI i < nI k) = (i < k) := by
  rw [Int32.lt_iff_toInt_lt, nI_toInt hi, nI_toInt hk]
  simp
theorem mI_le {i k : Nat} (hi : i < 2 ^ 31) (hk : k < 2 ^ 31) : (nI i ≤ nI k) = (i ≤ k) := by
  rw [Int32.le_iff_toInt_le, nI_toInt hi, nI_toInt hk]
  simp
theorem mI_eq {i k : Nat} (hi : i < 2 ^ 31) (hk : k < 2 ^ 31) : (nI i = nI k) = (i = k) := by
  rw [← Int32.toInt_inj, nI_toInt hi, nI_toInt hk]
  exact propext Int.ofNat_inj
theorem mI_nneg {i : Nat} (hi : i < 2 ^ 31) : (nI i < 0) = False := by
  have := mI_lt (i := i) (k := 0) hi (by decide)
  rw [show (0 : Int32) = nI 0 from rfl, this]
  simp
theorem mI_0le {i : Nat} (hi : i < 2 ^ 31) : (0 ≤ nI i) = True := by
  have := mI_le (i := 0) (k := i) (by decide) hi
  rw [show (0 : Int32) = nI 0 from rfl, this]
  simp
theorem mI_add {i k : Nat} : nI i + nI k = nI (i + k) := (Int32.ofNat_add i k).symm
theorem mI_mul {i k : Nat} : nI i * nI k = nI (i * k) := (Int32.ofNat_mul i k).symm
