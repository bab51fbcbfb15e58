/-! ===== The reader, 4: the text ===== -/
section RD4
variable {G : qG} {y : Nat → Option qSh} {μ : qMu} {r L n s : Nat} {st : Int32} {P : PS} {T : Nat → Int64} {D : Row} {cA cE cF cI' cB : Nat}
theorem skP_ge : P.1 ≤ (skP T L P).1 := (adv_le (Q := isSp T) (L - P.1) P.1).1
theorem wdP_ge : P.1 ≤ (wdP T L P).1 := (adv_le (Q := isLt T) (L - P.1) P.1).1
theorem nmP_ge {lo hi : Int32} : P.1 ≤ (nmP T L st P lo hi).1 := by
  have h1 := skP_ge (T := T) (L := L) (P := P)
  have h2 := (adv_le (Q := isDg T) (L - (skP T L P).1) (skP T L P).1).1
  unfold nmP
  split
  · split
    · exact Nat.le_trans h1 h2
    · rw [flP_1]; exact Nat.le_trans h1 h2
  · exact Nat.le_refl _
theorem ouP1_ge : P.1 ≤ (ouP1 T L st P).1 := by
  have h1 := Nat.le_trans (skP_ge (T := T) (L := L) (P := P)) (wdP_ge (T := T) (L := L) (P := skP T L P))
  unfold ouP1
  split
  · exact h1
  · rw [flP_1]; exact h1
theorem ouP_ge {c : Int32} : P.1 ≤ (ouP T L st P c).1 := by
  unfold ouP
  split
  · exact Nat.le_trans (skP_ge (T := T) (L := L) (P := P)) wdP_ge
  · exact Nat.le_trans ouP1_ge nmP_ge
theorem acP_ge {a : Int32} : P.1 ≤ (acP T L st P D a).1 := by
  unfold acP
  exact Nat.le_trans (Nat.le_of_eq roP_1.symm) nmP_ge
theorem acP_le {a : Int32} (hp : P.1 ≤ L) : (acP T L st P D a).1 ≤ L := by
  unfold acP
  exact nmP_le (roP_le hp)
theorem enP0_ge {a : Int32} : P.1 ≤ (enP0 T L st P D a).1 := by
  unfold enP0
  exact Nat.le_trans (Nat.le_of_eq roP_1.symm) nmP_ge
theorem enP1_ge {a : Int32} : P.1 ≤ (enP1 T L st P D a).1 := by
  unfold enP1
  exact Nat.le_trans enP0_ge nmP_ge
theorem enP2_ge {a : Int32} : P.1 ≤ (enP2 T L st P D a).1 := by
  unfold enP2
  exact Nat.le_trans enP1_ge nmP_ge
theorem enP3_ge {a : Int32} : P.1 ≤ (enP3 T L st P D a).1 := by
  unfold enP3
  exact Nat.le_trans enP2_ge ouP_ge
theorem fuP0_ge {a : Int32} : P.1 ≤ (fuP0 T L st P D a).1 := by
  unfold fuP0
  exact Nat.le_trans (Nat.le_of_eq roP_1.symm) nmP_ge
theorem fuP1_ge {a : Int32} : P.1 ≤ (fuP1 T L st P D a).1 := by
  unfold fuP1
  exact Nat.le_trans fuP0_ge nmP_ge
theorem fuP2_ge {a : Int32} : P.1 ≤ (fuP2 T L st P D a).1 := by
  unfold fuP2
  exact Nat.le_trans fuP1_ge nmP_ge
theorem fuP3_ge {a : Int32} : P.1 ≤ (fuP3 T L st P D a).1 := by
  unfold fuP3
  exact Nat.le_trans fuP2_ge nmP_ge
theorem icP0_ge {a : Int32} : P.1 ≤ (icP0 T L st P D a).1 := by
  unfold icP0
  exact Nat.le_trans (Nat.le_of_eq roP_1.symm) nmP_ge
theorem icP1_ge {a : Int32} : P.1 ≤ (icP1 T L st P D a).1 := by
  unfold icP1
  exact Nat.le_trans icP0_ge nmP_ge
theorem icP2_ge {a : Int32} : P.1 ≤ (icP2 T L st P D a).1 := by
  unfold icP2
  exact Nat.le_trans icP1_ge nmP_ge
theorem icP3_ge {a : Int32} : P.1 ≤ (icP3 T L st P D a).1 := by
  unfold icP3
  exact Nat.le_trans icP2_ge nmP_ge
theorem biP0_ge {a : Int32} : P.1 ≤ (biP0 T L st P D a).1 := by
  unfold biP0
  exact Nat.le_trans (Nat.le_of_eq roP_1.symm) nmP_ge
theorem biP1_ge {a : Int32} : P.1 ≤ (biP1 T L st P D a).1 := by
  unfold biP1
  exact Nat.le_trans biP0_ge nmP_ge
theorem biP2_ge {a : Int32} : P.1 ≤ (biP2 T L st P D a).1 := by
  unfold biP2
  exact Nat.le_trans biP1_ge nmP_ge
theorem biP3_ge {a : Int32} : P.1 ≤ (biP3 T L st P D a).1 := by
  unfold biP3
  exact Nat.le_trans biP2_ge nmP_ge
theorem biP4_ge {a : Int32} : P.1 ≤ (biP4 T L st P D a).1 := by
  unfold biP4
  exact Nat.le_trans biP3_ge nmP_ge
theorem cI_nI {k : Nat} : (nI k).toInt64.toInt32 = nI k := i64_32 _
theorem kDA_ct (h : Ct D cA cE cF cI' cB) (hA : cA < 4) {v : Int32} : Ct (kDA D cA v) (cA + 1) cE cF cI' cB := by
  obtain ⟨h1, h2, h3, h4, h5, h6, h7, h8, h9, h10⟩ := h
  refine ⟨?_, by omega, ?_, h4, ?_, h6, ?_, h8, ?_, h10⟩ <;> unfold kDA
  · rw [sv_get, if_neg (by omega), sv_get, if_pos rfl, i64_32]
  · rw [sv_get, if_neg (by omega), sv_get, if_neg (by omega), sv_get, if_neg (by omega)]; exact h3
  · rw [sv_get, if_neg (by omega), sv_get, if_neg (by omega), sv_get, if_neg (by omega)]; exact h5
  · rw [sv_get, if_neg (by omega), sv_get, if_neg (by omega), sv_get, if_neg (by omega)]; exact h7
  · rw [sv_get, if_neg (by omega), sv_get, if_neg (by omega), sv_get, if_neg (by omega)]; exact h9
theorem kDE0_k {e i : Nat} {m d c o : Int32} (hi : i < 6) : kDE0 D e m d c o i = D i := by
  unfold kDE0
  rw [sv_get, if_neg (by omega), sv_get, if_neg (by omega), sv_get, if_neg (by omega), sv_get, if_neg (by omega), sv_get, if_neg (by omega), sv_get, if_neg (by omega)]
theorem kDE_ct (h : Ct D cA cE cF cI' cB) (hA : cE < 10) {m d c o : Int32} : Ct (kDE D cE m d c o) cA (cE + 1) cF cI' cB := by
  obtain ⟨h1, h2, h3, h4, h5, h6, h7, h8, h9, h10⟩ := h
  refine ⟨?_, h2, ?_, by omega, ?_, h6, ?_, h8, ?_, h10⟩ <;> unfold kDE
  · rw [sv_get, if_neg (by omega), kDE0_k (by omega)]; exact h1
  · rw [sv_get, if_pos rfl, i64_32]
  · rw [sv_get, if_neg (by omega), kDE0_k (by omega)]; exact h5
  · rw [sv_get, if_neg (by omega), kDE0_k (by omega)]; exact h7
  · rw [sv_get, if_neg (by omega), kDE0_k (by omega)]; exact h9
theorem kDF0_k {e i : Nat} {m d c o : Int32} (hi : i < 6) : kDF0 D e m d c o i = D i := by
  unfold kDF0
  rw [sv_get, if_neg (by omega), sv_get, if_neg (by omega), sv_get, if_neg (by omega), sv_get, if_neg (by omega), sv_get, if_neg (by omega), sv_get, if_neg (by omega)]
theorem kDF_ct (h : Ct D cA cE cF cI' cB) (hA : cF < 6) {m d c o : Int32} : Ct (kDF D cF m d c o) cA cE (cF + 1) cI' cB := by
  obtain ⟨h1, h2, h3, h4, h5, h6, h7, h8, h9, h10⟩ := h
  refine ⟨?_, h2, ?_, h4, ?_, by omega, ?_, h8, ?_, h10⟩ <;> unfold kDF
  · rw [sv_get, if_neg (by omega), kDF0_k (by omega)]; exact h1
  · rw [sv_get, if_neg (by omega), kDF0_k (by omega)]; exact h3
  · rw [sv_get, if_pos rfl, i64_32]
  · rw [sv_get, if_neg (by omega), kDF0_k (by omega)]; exact h7
  · rw [sv_get, if_neg (by omega), kDF0_k (by omega)]; exact h9
theorem kDI0_k {e i : Nat} {m d c o : Int32} (hi : i < 6) : kDI0 D e m d c o i = D i := by
  unfold kDI0
  rw [sv_get, if_neg (by omega), sv_get, if_neg (by omega), sv_get, if_neg (by omega), sv_get, if_neg (by omega), sv_get, if_neg (by omega)]
theorem kDI_ct (h : Ct D cA cE cF cI' cB) (hA : cI' < 4) {m d c o : Int32} : Ct (kDI D cI' m d c o) cA cE cF (cI' + 1) cB := by
  obtain ⟨h1, h2, h3, h4, h5, h6, h7, h8, h9, h10⟩ := h
  refine ⟨?_, h2, ?_, h4, ?_, h6, ?_, by omega, ?_, h10⟩ <;> unfold kDI
  · rw [sv_get, if_neg (by omega), kDI0_k (by omega)]; exact h1
  · rw [sv_get, if_neg (by omega), kDI0_k (by omega)]; exact h3
  · rw [sv_get, if_neg (by omega), kDI0_k (by omega)]; exact h5
  · rw [sv_get, if_pos rfl, i64_32]
  · rw [sv_get, if_neg (by omega), kDI0_k (by omega)]; exact h9
theorem kDB0_k {e i : Nat} {k m d c o : Int32} (hi : i < 6) : kDB0 D e k m d c o i = D i := by
  unfold kDB0
  rw [sv_get, if_neg (by omega), sv_get, if_neg (by omega), sv_get, if_neg (by omega), sv_get, if_neg (by omega), sv_get, if_neg (by omega)]
theorem kDB_ct (h : Ct D cA cE cF cI' cB) (hA : cB < 12) {k m d c o : Int32} : Ct (kDB D cB k m d c o) cA cE cF cI' (cB + 1) := by
  obtain ⟨h1, h2, h3, h4, h5, h6, h7, h8, h9, h10⟩ := h
  refine ⟨?_, h2, ?_, h4, ?_, h6, ?_, h8, ?_, by omega⟩ <;> unfold kDB
  · rw [sv_get, if_neg (by omega), kDB0_k (by omega)]; exact h1
  · rw [sv_get, if_neg (by omega), kDB0_k (by omega)]; exact h3
  · rw [sv_get, if_neg (by omega), kDB0_k (by omega)]; exact h5
  · rw [sv_get, if_neg (by omega), kDB0_k (by omega)]; exact h7
  · rw [sv_get, if_pos rfl, i64_32]
theorem Ct.sv5 (h : Ct D cA cE cF cI' cB) {v : Int64} : Ct (sv D 5 v) cA cE cF cI' cB := by
  obtain ⟨h1, h2, h3, h4, h5, h6, h7, h8, h9, h10⟩ := h
  exact ⟨by rw [sv_get, if_neg (by omega)]; exact h1, h2, by rw [sv_get, if_neg (by omega)]; exact h3, h4, by rw [sv_get, if_neg (by omega)]; exact h5, h6, by rw [sv_get, if_neg (by omega)]; exact h7, h8, by rw [sv_get, if_neg (by omega)]; exact h9, h10⟩
/-- some counts -/
def CtX (D : Row) : Prop := ∃ a e f i b, Ct D a e f i b
theorem lt_of_i32 {x : Int32} {c m : Nat} (h : x = nI c) (hc : c < 2 ^ 31) (hm : m < 2 ^ 31) (h2 : x < nI m) : c < m := by
  rw [h, mI_lt hc hm] at h2
  exact h2
theorem acD_ct (h : CtX D) {a : Int32} : CtX (acD T L st P D a) := by
  obtain ⟨cA, cE, cF, cI', cB, hC⟩ := h
  unfold acD
  split
  · rename_i hq
    have hA : cA < 4 := lt_of_i32 hC.1 (by have := hC.2.1; omega) (by decide) (show (D 0).toInt32 < nI 4 from (roP_e (nmP_e hq)).1)
    rw [cn_of hC.1 (by omega)]
    exact ⟨_, _, _, _, _, kDA_ct hC hA⟩
  · exact ⟨_, _, _, _, _, hC⟩
theorem enD_ct (h : CtX D) {a : Int32} : CtX (enD T L st P D a) := by
  obtain ⟨cA, cE, cF, cI', cB, hC⟩ := h
  unfold enD
  split
  · rename_i hq
    have hA : cE < 10 := lt_of_i32 hC.2.2.1 (by have := hC.2.2.2.1; omega) (by decide) (show (D 1).toInt32 < nI 10 from (enP3_e hq).1)
    rw [cn_of hC.2.2.1 (by omega)]
    exact ⟨_, _, _, _, _, kDE_ct hC hA⟩
  · exact ⟨_, _, _, _, _, hC⟩
theorem fuD_ct (h : CtX D) {a : Int32} : CtX (fuD T L st P D a) := by
  obtain ⟨cA, cE, cF, cI', cB, hC⟩ := h
  unfold fuD
  split
  · rename_i hq
    have hA : cF < 6 := lt_of_i32 hC.2.2.2.2.1 (by have := hC.2.2.2.2.2.1; omega) (by decide) (show (D 2).toInt32 < nI 6 from (fuP3_e hq).1)
    rw [cn_of hC.2.2.2.2.1 (by omega)]
    exact ⟨_, _, _, _, _, kDF_ct hC hA⟩
  · exact ⟨_, _, _, _, _, hC⟩
theorem icD_ct (h : CtX D) {a : Int32} : CtX (icD T L st P D a) := by
  obtain ⟨cA, cE, cF, cI', cB, hC⟩ := h
  unfold icD
  split
  · rename_i hq
    have hA : cI' < 4 := lt_of_i32 hC.2.2.2.2.2.2.1 (by have := hC.2.2.2.2.2.2.2.1; omega) (by decide) (show (D 3).toInt32 < nI 4 from (icP3_e hq).1)
    rw [cn_of hC.2.2.2.2.2.2.1 (by omega)]
    exact ⟨_, _, _, _, _, kDI_ct hC hA⟩
  · exact ⟨_, _, _, _, _, hC⟩
theorem biD_ct (h : CtX D) {a : Int32} : CtX (biD T L st P D a) := by
  obtain ⟨cA, cE, cF, cI', cB, hC⟩ := h
  unfold biD
  split
  · rename_i hq
    have hA : cB < 12 := lt_of_i32 hC.2.2.2.2.2.2.2.2.1 (by have := hC.2.2.2.2.2.2.2.2.2; omega) (by decide) (show (D 4).toInt32 < nI 12 from (biP4_e hq).1)
    rw [cn_of hC.2.2.2.2.2.2.2.2.1 (by omega)]
    exact ⟨_, _, _, _, _, kDB_ct hC hA⟩
  · exact ⟨_, _, _, _, _, hC⟩
theorem peD_ct (h : CtX D) : CtX (peD T L st P D) := by
  obtain ⟨cA, cE, cF, cI', cB, hC⟩ := h
  unfold peD
  split
  · exact ⟨_, _, _, _, _, hC.sv5⟩
  · exact ⟨_, _, _, _, _, hC⟩
/-- a statement -/
abbrev isK (T : Nat → Int64) (L : Nat) (P : PS) (k : Nat) : Prop := isW T (skP T L P).1 (wdP T L (skP T L P)).1 (wsT k) = true
def stP (T : Nat → Int64) (L : Nat) (st : Int32) (P : PS) (D : Row) : PS :=
  if isK T L P 0 then acP T L st (wdP T L (skP T L P)) D (nI (skP T L P).1) else if isK T L P 1 then enP3 T L st (wdP T L (skP T L P)) D (nI (skP T L P).1)
  else if isK T L P 2 then fuP3 T L st (wdP T L (skP T L P)) D (nI (skP T L P).1) else if isK T L P 3 then icP3 T L st (wdP T L (skP T L P)) D (nI (skP T L P).1)
  else if isK T L P 4 then biP4 T L st (wdP T L (skP T L P)) D (nI (skP T L P).1) else if isK T L P 5 then peP T L st (wdP T L (skP T L P))
  else flP st (wdP T L (skP T L P)) 1 (nI (skP T L P).1)
def stD (T : Nat → Int64) (L : Nat) (st : Int32) (P : PS) (D : Row) : Row :=
  if isK T L P 0 then acD T L st (wdP T L (skP T L P)) D (nI (skP T L P).1) else if isK T L P 1 then enD T L st (wdP T L (skP T L P)) D (nI (skP T L P).1)
  else if isK T L P 2 then fuD T L st (wdP T L (skP T L P)) D (nI (skP T L P).1) else if isK T L P 3 then icD T L st (wdP T L (skP T L P)) D (nI (skP T L P).1)
  else if isK T L P 4 then biD T L st (wdP T L (skP T L P)) D (nI (skP T L P).1) else if isK T L P 5 then peD T L st (wdP T L (skP T L P)) D
  else D
theorem stP_ge : P.1 ≤ (stP T L st P D).1 := by
  have h1 := Nat.le_trans (skP_ge (T := T) (L := L) (P := P)) (wdP_ge (T := T) (L := L) (P := skP T L P))
  unfold stP
  split
  · exact Nat.le_trans h1 acP_ge
  split
  · exact Nat.le_trans h1 enP3_ge
  split
  · exact Nat.le_trans h1 fuP3_ge
  split
  · exact Nat.le_trans h1 icP3_ge
  split
  · exact Nat.le_trans h1 biP4_ge
  split
  · exact Nat.le_trans h1 nmP_ge
  · rw [flP_1]; exact h1
theorem stP_le (hp : P.1 ≤ L) : (stP T L st P D).1 ≤ L := by
  have h1 := (wdP_le (T := T) (skP_le (T := T) hp).1).1
  unfold stP
  split
  · exact acP_le h1
  split
  · exact enP3_le h1
  split
  · exact fuP3_le h1
  split
  · exact icP3_le h1
  split
  · exact biP4_le h1
  split
  · exact nmP_le h1
  · rw [flP_1]; exact h1
theorem stD_ct (h : CtX D) : CtX (stD T L st P D) := by
  unfold stD
  split
  · exact acD_ct h
  split
  · exact enD_ct h
  split
  · exact fuD_ct h
  split
  · exact icD_ct h
  split
  · exact biD_ct h
  split
  · exact peD_ct h
  · exact h
theorem t23 (hR : RL y r) (hL : L ≤ 900) (hp : P.1 ≤ L) (hT : TX G y μ r) (hC : CtX D) : qR PG G (qEntry PG 23 [.ref r] (MK y (RM μ r L st P T D) n s)) = some (.inl none, MK y (RM μ r L st (stP T L st P D) T (stD T L st P D)) n s) := by
  have hR' := hR
  obtain ⟨h0, h1, h2⟩ := hR
  obtain ⟨cA, cE, cF, cI', cB, hC⟩ := hC
  have q1 := t24 (G := G) (μ := μ) (L := L) (st := st) (P := P) (T := T) (D := D) (n := n) (s := s) hR' hL hp
  have hw := wdP_le (T := T) (skP_le (T := T) hp).1
  have hS : ∀ k, k < 14 → qStr (MK y (RM μ r L st (wdP T L (skP T L P)) T D) n s) (G.2.2.2 k) = some ((wsT k).map .int) := fun k hk => by
    rw [← qTx_map]
    exact ((hT.rm (L := L) (st := st) (P := wdP T L (skP T L P)) (T := T) (D := D)) k hk).2 n s
  have q2 : ∀ k, k < 14 → qR PG G (qEntry PG 26 [.ref r, .int (nI (skP T L P).1), .ref (G.2.2.2 k)] (MK y (RM μ r L st (wdP T L (skP T L P)) T D) n s)) = some (.inl (some (.int (if isK T L P k then 1 else 0))), MK y (RM μ r L st (wdP T L (skP T L P)) T D) n s) := fun k hk => t26 hR' hL hw.1 hw.2 (hS k hk) (wsT_len k)
  have p0 := q2 0 (by decide)
  have p1 := q2 1 (by decide)
  have p2 := q2 2 (by decide)
  have p3 := q2 3 (by decide)
  have p4 := q2 4 (by decide)
  have p5 := q2 5 (by decide)
  have a0 := t27 (G := G) (μ := μ) (L := L) (st := st) (P := wdP T L (skP T L P)) (T := T) (D := D) (n := n) (s := s) hR' hL hw.1 hC (a := nI (skP T L P).1)
  have a1 := t32 (G := G) (μ := μ) (L := L) (st := st) (P := wdP T L (skP T L P)) (T := T) (D := D) (n := n) (s := s) hR' hL hw.1 hT hC (a := nI (skP T L P).1)
  have a2 := t36 (G := G) (μ := μ) (L := L) (st := st) (P := wdP T L (skP T L P)) (T := T) (D := D) (n := n) (s := s) hR' hL hw.1 hC (a := nI (skP T L P).1)
  have a3 := t39 (G := G) (μ := μ) (L := L) (st := st) (P := wdP T L (skP T L P)) (T := T) (D := D) (n := n) (s := s) hR' hL hw.1 hC (a := nI (skP T L P).1)
  have a4 := t42 (G := G) (μ := μ) (L := L) (st := st) (P := wdP T L (skP T L P)) (T := T) (D := D) (n := n) (s := s) hR' hL hw.1 hC (a := nI (skP T L P).1)
  have a5 := t44 (G := G) (μ := μ) (L := L) (st := st) (P := wdP T L (skP T L P)) (T := T) (D := D) (n := n) (s := s) hR' hL hw.1
  have a6 := t29 (G := G) (μ := μ) (L := L) (st := st) (P := wdP T L (skP T L P)) (T := T) (D := D) (n := n) (s := s) hR' (k := 1) (a := nI (skP T L P).1)
  have n1 : ((1 : Int32) = 0) = False := by decide
  unfold stP stD
  clear hS q2
  by_cases c100 : isK T L P 0
  · rw [if_pos c100, if_pos c100]
    simp -implicitDefEqProofs only [e23, K23_0, K23_7, j23_1, j23_2, j23_3, j23_4, j23_5, j23_6, j23_7, s_iadd, s_isub, s_imul, s_ineg, s_iand, s_ior, s_ixor, s_ishl, s_ishr, s_iushr, s_i2l, s_l2i, s_i2b, s_i2c, s_ladd, s_lsub, s_lmul, s_lneg, s_land, s_lor, s_lshl, s_lshr, s_lushr, s_lcmp, s_l2d, s_l2f, s_i2d, s_i2f, s_idiv, s_ldiv, s_irem, s_lrem, s_dcmp, s_fcmp, s_ddiv, s_fdiv, s_f2d, s_dup_i, s_dup_r, s_dup2_l, s_dup2_ir, s_pop, s_iconst, s_bipush, s_sipush, s_lconst, s_fconst, s_dconst, s_ldc, s_ldc_w, s_ldc2_w, s_iload, s_iload_n0, s_iload_n1, s_iload_n2, s_iload_n3, s_lload, s_lload_n0, s_lload_n1, s_lload_n2, s_lload_n3, s_fload, s_fload_n0, s_fload_n1, s_fload_n2, s_fload_n3, s_dload, s_dload_n0, s_dload_n1, s_dload_n2, s_dload_n3, s_aload, s_aload_n0, s_aload_n1, s_aload_n2, s_aload_n3, s_istore, s_istore_n0, s_istore_n1, s_istore_n2, s_istore_n3, s_lstore, s_lstore_n0, s_lstore_n1, s_lstore_n2, s_lstore_n3, s_fstore, s_fstore_n0, s_fstore_n1, s_fstore_n2, s_fstore_n3, s_dstore, s_dstore_n0, s_dstore_n1, s_dstore_n2, s_dstore_n3, s_astore, s_astore_n0, s_astore_n1, s_astore_n2, s_astore_n3, s_astoreN_n, s_iinc, s_if_eq, s_if_lt, s_if_ge, s_if_gt, s_if_le, s_if_ne, s_ic_eq, s_ic_lt, s_ic_ge, s_ic_gt, s_ic_le, s_ic_ne, s_ifnn_r, s_ifnn_n, s_goto, s_nop, s_tab, s_getfield, s_putfield, s_anewarray, s_newarray, s_iaload, s_baload, s_caload, s_laload, s_daload, s_aaload, s_iastore, s_bastore, s_castore, s_lastore, s_dastore, s_aastore, s_arraylength, s_lreturn, s_freturn, s_dreturn, s_areturn, s_return, s_new, s_thr, ld_Z, ld_S, kl_Z, pd_0, pd_c, pd_n, ag_i, ag_r, ag_l, ag_n, st_Z, st_On, st_Oi, st_Or, st_Ol, st_S, s2_eq, mk_t, mk_f, mk_n, cl_v, cl_n, cl_if, vl_0, vl_1, vl_2, cv_i, cv_l, cv_d, cv_f, rf_s, qW_n, qW_i, qW_l, qW_r, qMem, x_get, x_putI, x_putL, x_ldL, x_ldI, x_ldA, x_stL, x_stI, x_isO, MK_1, MK_21, List.set_cons_zero, List.set_cons_succ, List.getElem?_cons_zero, List.getElem?_cons_succ, Option.map_some, List.tail_cons, i64_32, Nat.zero_add, Nat.reduceAdd, Nat.reduceLeDiff, Nat.le_refl, if_true, if_false, ite_true, ite_false, reduceIte, lnO, rfO, fn_0, f_0_0, f_0_1, f_0_2, f_0_3, f_0_4, f_0_5, f_0_6, f_0_7, f_0_8, f_0_9, f_0_10, f_0_11, f_0_12, f_0_13, f_0_14, fn_1, f_1_0, f_1_1, f_1_2, f_1_3, f_1_4, fn_2, f_2_0, f_2_1, f_2_2, f_2_3, f_2_4, f_2_5, fn_3, f_3_0, f_3_1, f_3_2, f_3_3, fn_4, f_4_0, f_4_1, f_4_2, f_4_3, f_4_4, f_4_5, fn_5, f_5_0, f_5_1, f_5_2, fn_6, f_6_0, f_6_1, f_6_2, fn_7, f_7_0, f_7_1, f_7_2, f_7_3, f_7_4, fn_8, f_8_0, f_8_1, f_8_2, f_8_3, f_8_4, f_8_5, f_8_6, f_8_7, fn_9, f_9_0, f_9_1, f_9_2, f_9_3, f_9_4, f_9_5, fn_10, f_10_0, f_10_1, f_10_2, f_10_3, f_10_4, f_10_5, f_10_6, f_10_7, f_10_8, f_10_9, f_10_10, f_10_11, f_10_12, f_10_13, f_10_14, f_10_15, f_10_16, f_10_17, f_10_18, f_10_19, f_10_20, f_10_21, f_10_22, f_10_23, Nat.reduceLT, cv_t, x_ld3, x_ld2, x_st3, x_st2, rm_g2, rm_g3, rm_g4, rm_g5, rm_g6, rm_g7, rm_s2, rm_s3, rm_s4, rm_s5, rm_s6, rm_s7, rm_t, c24, c26, c27, q1, p0, if_pos c100, a0, h0, n1]
  rw [if_neg c100, if_neg c100]
  by_cases c101 : isK T L P 1
  · rw [if_pos c101, if_pos c101]
    simp -implicitDefEqProofs only [e23, K23_0, K23_1, K23_7, j23_1, j23_2, j23_3, j23_4, j23_5, j23_6, j23_7, s_iadd, s_isub, s_imul, s_ineg, s_iand, s_ior, s_ixor, s_ishl, s_ishr, s_iushr, s_i2l, s_l2i, s_i2b, s_i2c, s_ladd, s_lsub, s_lmul, s_lneg, s_land, s_lor, s_lshl, s_lshr, s_lushr, s_lcmp, s_l2d, s_l2f, s_i2d, s_i2f, s_idiv, s_ldiv, s_irem, s_lrem, s_dcmp, s_fcmp, s_ddiv, s_fdiv, s_f2d, s_dup_i, s_dup_r, s_dup2_l, s_dup2_ir, s_pop, s_iconst, s_bipush, s_sipush, s_lconst, s_fconst, s_dconst, s_ldc, s_ldc_w, s_ldc2_w, s_iload, s_iload_n0, s_iload_n1, s_iload_n2, s_iload_n3, s_lload, s_lload_n0, s_lload_n1, s_lload_n2, s_lload_n3, s_fload, s_fload_n0, s_fload_n1, s_fload_n2, s_fload_n3, s_dload, s_dload_n0, s_dload_n1, s_dload_n2, s_dload_n3, s_aload, s_aload_n0, s_aload_n1, s_aload_n2, s_aload_n3, s_istore, s_istore_n0, s_istore_n1, s_istore_n2, s_istore_n3, s_lstore, s_lstore_n0, s_lstore_n1, s_lstore_n2, s_lstore_n3, s_fstore, s_fstore_n0, s_fstore_n1, s_fstore_n2, s_fstore_n3, s_dstore, s_dstore_n0, s_dstore_n1, s_dstore_n2, s_dstore_n3, s_astore, s_astore_n0, s_astore_n1, s_astore_n2, s_astore_n3, s_astoreN_n, s_iinc, s_if_eq, s_if_lt, s_if_ge, s_if_gt, s_if_le, s_if_ne, s_ic_eq, s_ic_lt, s_ic_ge, s_ic_gt, s_ic_le, s_ic_ne, s_ifnn_r, s_ifnn_n, s_goto, s_nop, s_tab, s_getfield, s_putfield, s_anewarray, s_newarray, s_iaload, s_baload, s_caload, s_laload, s_daload, s_aaload, s_iastore, s_bastore, s_castore, s_lastore, s_dastore, s_aastore, s_arraylength, s_lreturn, s_freturn, s_dreturn, s_areturn, s_return, s_new, s_thr, ld_Z, ld_S, kl_Z, pd_0, pd_c, pd_n, ag_i, ag_r, ag_l, ag_n, st_Z, st_On, st_Oi, st_Or, st_Ol, st_S, s2_eq, mk_t, mk_f, mk_n, cl_v, cl_n, cl_if, vl_0, vl_1, vl_2, cv_i, cv_l, cv_d, cv_f, rf_s, qW_n, qW_i, qW_l, qW_r, qMem, x_get, x_putI, x_putL, x_ldL, x_ldI, x_ldA, x_stL, x_stI, x_isO, MK_1, MK_21, List.set_cons_zero, List.set_cons_succ, List.getElem?_cons_zero, List.getElem?_cons_succ, Option.map_some, List.tail_cons, i64_32, Nat.zero_add, Nat.reduceAdd, Nat.reduceLeDiff, Nat.le_refl, if_true, if_false, ite_true, ite_false, reduceIte, lnO, rfO, fn_0, f_0_0, f_0_1, f_0_2, f_0_3, f_0_4, f_0_5, f_0_6, f_0_7, f_0_8, f_0_9, f_0_10, f_0_11, f_0_12, f_0_13, f_0_14, fn_1, f_1_0, f_1_1, f_1_2, f_1_3, f_1_4, fn_2, f_2_0, f_2_1, f_2_2, f_2_3, f_2_4, f_2_5, fn_3, f_3_0, f_3_1, f_3_2, f_3_3, fn_4, f_4_0, f_4_1, f_4_2, f_4_3, f_4_4, f_4_5, fn_5, f_5_0, f_5_1, f_5_2, fn_6, f_6_0, f_6_1, f_6_2, fn_7, f_7_0, f_7_1, f_7_2, f_7_3, f_7_4, fn_8, f_8_0, f_8_1, f_8_2, f_8_3, f_8_4, f_8_5, f_8_6, f_8_7, fn_9, f_9_0, f_9_1, f_9_2, f_9_3, f_9_4, f_9_5, fn_10, f_10_0, f_10_1, f_10_2, f_10_3, f_10_4, f_10_5, f_10_6, f_10_7, f_10_8, f_10_9, f_10_10, f_10_11, f_10_12, f_10_13, f_10_14, f_10_15, f_10_16, f_10_17, f_10_18, f_10_19, f_10_20, f_10_21, f_10_22, f_10_23, Nat.reduceLT, cv_t, x_ld3, x_ld2, x_st3, x_st2, rm_g2, rm_g3, rm_g4, rm_g5, rm_g6, rm_g7, rm_s2, rm_s3, rm_s4, rm_s5, rm_s6, rm_s7, rm_t, c24, c26, c32, q1, p0, p1, if_neg c100, if_pos c101, a1, h0, n1]
  rw [if_neg c101, if_neg c101]
  by_cases c102 : isK T L P 2
  · rw [if_pos c102, if_pos c102]
    simp -implicitDefEqProofs only [e23, K23_0, K23_1, K23_2, K23_7, j23_1, j23_2, j23_3, j23_4, j23_5, j23_6, j23_7, s_iadd, s_isub, s_imul, s_ineg, s_iand, s_ior, s_ixor, s_ishl, s_ishr, s_iushr, s_i2l, s_l2i, s_i2b, s_i2c, s_ladd, s_lsub, s_lmul, s_lneg, s_land, s_lor, s_lshl, s_lshr, s_lushr, s_lcmp, s_l2d, s_l2f, s_i2d, s_i2f, s_idiv, s_ldiv, s_irem, s_lrem, s_dcmp, s_fcmp, s_ddiv, s_fdiv, s_f2d, s_dup_i, s_dup_r, s_dup2_l, s_dup2_ir, s_pop, s_iconst, s_bipush, s_sipush, s_lconst, s_fconst, s_dconst, s_ldc, s_ldc_w, s_ldc2_w, s_iload, s_iload_n0, s_iload_n1, s_iload_n2, s_iload_n3, s_lload, s_lload_n0, s_lload_n1, s_lload_n2, s_lload_n3, s_fload, s_fload_n0, s_fload_n1, s_fload_n2, s_fload_n3, s_dload, s_dload_n0, s_dload_n1, s_dload_n2, s_dload_n3, s_aload, s_aload_n0, s_aload_n1, s_aload_n2, s_aload_n3, s_istore, s_istore_n0, s_istore_n1, s_istore_n2, s_istore_n3, s_lstore, s_lstore_n0, s_lstore_n1, s_lstore_n2, s_lstore_n3, s_fstore, s_fstore_n0, s_fstore_n1, s_fstore_n2, s_fstore_n3, s_dstore, s_dstore_n0, s_dstore_n1, s_dstore_n2, s_dstore_n3, s_astore, s_astore_n0, s_astore_n1, s_astore_n2, s_astore_n3, s_astoreN_n, s_iinc, s_if_eq, s_if_lt, s_if_ge, s_if_gt, s_if_le, s_if_ne, s_ic_eq, s_ic_lt, s_ic_ge, s_ic_gt, s_ic_le, s_ic_ne, s_ifnn_r, s_ifnn_n, s_goto, s_nop, s_tab, s_getfield, s_putfield, s_anewarray, s_newarray, s_iaload, s_baload, s_caload, s_laload, s_daload, s_aaload, s_iastore, s_bastore, s_castore, s_lastore, s_dastore, s_aastore, s_arraylength, s_lreturn, s_freturn, s_dreturn, s_areturn, s_return, s_new, s_thr, ld_Z, ld_S, kl_Z, pd_0, pd_c, pd_n, ag_i, ag_r, ag_l, ag_n, st_Z, st_On, st_Oi, st_Or, st_Ol, st_S, s2_eq, mk_t, mk_f, mk_n, cl_v, cl_n, cl_if, vl_0, vl_1, vl_2, cv_i, cv_l, cv_d, cv_f, rf_s, qW_n, qW_i, qW_l, qW_r, qMem, x_get, x_putI, x_putL, x_ldL, x_ldI, x_ldA, x_stL, x_stI, x_isO, MK_1, MK_21, List.set_cons_zero, List.set_cons_succ, List.getElem?_cons_zero, List.getElem?_cons_succ, Option.map_some, List.tail_cons, i64_32, Nat.zero_add, Nat.reduceAdd, Nat.reduceLeDiff, Nat.le_refl, if_true, if_false, ite_true, ite_false, reduceIte, lnO, rfO, fn_0, f_0_0, f_0_1, f_0_2, f_0_3, f_0_4, f_0_5, f_0_6, f_0_7, f_0_8, f_0_9, f_0_10, f_0_11, f_0_12, f_0_13, f_0_14, fn_1, f_1_0, f_1_1, f_1_2, f_1_3, f_1_4, fn_2, f_2_0, f_2_1, f_2_2, f_2_3, f_2_4, f_2_5, fn_3, f_3_0, f_3_1, f_3_2, f_3_3, fn_4, f_4_0, f_4_1, f_4_2, f_4_3, f_4_4, f_4_5, fn_5, f_5_0, f_5_1, f_5_2, fn_6, f_6_0, f_6_1, f_6_2, fn_7, f_7_0, f_7_1, f_7_2, f_7_3, f_7_4, fn_8, f_8_0, f_8_1, f_8_2, f_8_3, f_8_4, f_8_5, f_8_6, f_8_7, fn_9, f_9_0, f_9_1, f_9_2, f_9_3, f_9_4, f_9_5, fn_10, f_10_0, f_10_1, f_10_2, f_10_3, f_10_4, f_10_5, f_10_6, f_10_7, f_10_8, f_10_9, f_10_10, f_10_11, f_10_12, f_10_13, f_10_14, f_10_15, f_10_16, f_10_17, f_10_18, f_10_19, f_10_20, f_10_21, f_10_22, f_10_23, Nat.reduceLT, cv_t, x_ld3, x_ld2, x_st3, x_st2, rm_g2, rm_g3, rm_g4, rm_g5, rm_g6, rm_g7, rm_s2, rm_s3, rm_s4, rm_s5, rm_s6, rm_s7, rm_t, c24, c26, c36, q1, p0, p1, p2, if_neg c100, if_neg c101, if_pos c102, a2, h0, n1]
  rw [if_neg c102, if_neg c102]
  by_cases c103 : isK T L P 3
  · rw [if_pos c103, if_pos c103]
    simp -implicitDefEqProofs only [e23, K23_0, K23_1, K23_2, K23_3, K23_7, j23_1, j23_2, j23_3, j23_4, j23_5, j23_6, j23_7, s_iadd, s_isub, s_imul, s_ineg, s_iand, s_ior, s_ixor, s_ishl, s_ishr, s_iushr, s_i2l, s_l2i, s_i2b, s_i2c, s_ladd, s_lsub, s_lmul, s_lneg, s_land, s_lor, s_lshl, s_lshr, s_lushr, s_lcmp, s_l2d, s_l2f, s_i2d, s_i2f, s_idiv, s_ldiv, s_irem, s_lrem, s_dcmp, s_fcmp, s_ddiv, s_fdiv, s_f2d, s_dup_i, s_dup_r, s_dup2_l, s_dup2_ir, s_pop, s_iconst, s_bipush, s_sipush, s_lconst, s_fconst, s_dconst, s_ldc, s_ldc_w, s_ldc2_w, s_iload, s_iload_n0, s_iload_n1, s_iload_n2, s_iload_n3, s_lload, s_lload_n0, s_lload_n1, s_lload_n2, s_lload_n3, s_fload, s_fload_n0, s_fload_n1, s_fload_n2, s_fload_n3, s_dload, s_dload_n0, s_dload_n1, s_dload_n2, s_dload_n3, s_aload, s_aload_n0, s_aload_n1, s_aload_n2, s_aload_n3, s_istore, s_istore_n0, s_istore_n1, s_istore_n2, s_istore_n3, s_lstore, s_lstore_n0, s_lstore_n1, s_lstore_n2, s_lstore_n3, s_fstore, s_fstore_n0, s_fstore_n1, s_fstore_n2, s_fstore_n3, s_dstore, s_dstore_n0, s_dstore_n1, s_dstore_n2, s_dstore_n3, s_astore, s_astore_n0, s_astore_n1, s_astore_n2, s_astore_n3, s_astoreN_n, s_iinc, s_if_eq, s_if_lt, s_if_ge, s_if_gt, s_if_le, s_if_ne, s_ic_eq, s_ic_lt, s_ic_ge, s_ic_gt, s_ic_le, s_ic_ne, s_ifnn_r, s_ifnn_n, s_goto, s_nop, s_tab, s_getfield, s_putfield, s_anewarray, s_newarray, s_iaload, s_baload, s_caload, s_laload, s_daload, s_aaload, s_iastore, s_bastore, s_castore, s_lastore, s_dastore, s_aastore, s_arraylength, s_lreturn, s_freturn, s_dreturn, s_areturn, s_return, s_new, s_thr, ld_Z, ld_S, kl_Z, pd_0, pd_c, pd_n, ag_i, ag_r, ag_l, ag_n, st_Z, st_On, st_Oi, st_Or, st_Ol, st_S, s2_eq, mk_t, mk_f, mk_n, cl_v, cl_n, cl_if, vl_0, vl_1, vl_2, cv_i, cv_l, cv_d, cv_f, rf_s, qW_n, qW_i, qW_l, qW_r, qMem, x_get, x_putI, x_putL, x_ldL, x_ldI, x_ldA, x_stL, x_stI, x_isO, MK_1, MK_21, List.set_cons_zero, List.set_cons_succ, List.getElem?_cons_zero, List.getElem?_cons_succ, Option.map_some, List.tail_cons, i64_32, Nat.zero_add, Nat.reduceAdd, Nat.reduceLeDiff, Nat.le_refl, if_true, if_false, ite_true, ite_false, reduceIte, lnO, rfO, fn_0, f_0_0, f_0_1, f_0_2, f_0_3, f_0_4, f_0_5, f_0_6, f_0_7, f_0_8, f_0_9, f_0_10, f_0_11, f_0_12, f_0_13, f_0_14, fn_1, f_1_0, f_1_1, f_1_2, f_1_3, f_1_4, fn_2, f_2_0, f_2_1, f_2_2, f_2_3, f_2_4, f_2_5, fn_3, f_3_0, f_3_1, f_3_2, f_3_3, fn_4, f_4_0, f_4_1, f_4_2, f_4_3, f_4_4, f_4_5, fn_5, f_5_0, f_5_1, f_5_2, fn_6, f_6_0, f_6_1, f_6_2, fn_7, f_7_0, f_7_1, f_7_2, f_7_3, f_7_4, fn_8, f_8_0, f_8_1, f_8_2, f_8_3, f_8_4, f_8_5, f_8_6, f_8_7, fn_9, f_9_0, f_9_1, f_9_2, f_9_3, f_9_4, f_9_5, fn_10, f_10_0, f_10_1, f_10_2, f_10_3, f_10_4, f_10_5, f_10_6, f_10_7, f_10_8, f_10_9, f_10_10, f_10_11, f_10_12, f_10_13, f_10_14, f_10_15, f_10_16, f_10_17, f_10_18, f_10_19, f_10_20, f_10_21, f_10_22, f_10_23, Nat.reduceLT, cv_t, x_ld3, x_ld2, x_st3, x_st2, rm_g2, rm_g3, rm_g4, rm_g5, rm_g6, rm_g7, rm_s2, rm_s3, rm_s4, rm_s5, rm_s6, rm_s7, rm_t, c24, c26, c39, q1, p0, p1, p2, p3, if_neg c100, if_neg c101, if_neg c102, if_pos c103, a3, h0, n1]
  rw [if_neg c103, if_neg c103]
  by_cases c104 : isK T L P 4
  · rw [if_pos c104, if_pos c104]
    simp -implicitDefEqProofs only [e23, K23_0, K23_1, K23_2, K23_3, K23_4, K23_7, j23_1, j23_2, j23_3, j23_4, j23_5, j23_6, j23_7, s_iadd, s_isub, s_imul, s_ineg, s_iand, s_ior, s_ixor, s_ishl, s_ishr, s_iushr, s_i2l, s_l2i, s_i2b, s_i2c, s_ladd, s_lsub, s_lmul, s_lneg, s_land, s_lor, s_lshl, s_lshr, s_lushr, s_lcmp, s_l2d, s_l2f, s_i2d, s_i2f, s_idiv, s_ldiv, s_irem, s_lrem, s_dcmp, s_fcmp, s_ddiv, s_fdiv, s_f2d, s_dup_i, s_dup_r, s_dup2_l, s_dup2_ir, s_pop, s_iconst, s_bipush, s_sipush, s_lconst, s_fconst, s_dconst, s_ldc, s_ldc_w, s_ldc2_w, s_iload, s_iload_n0, s_iload_n1, s_iload_n2, s_iload_n3, s_lload, s_lload_n0, s_lload_n1, s_lload_n2, s_lload_n3, s_fload, s_fload_n0, s_fload_n1, s_fload_n2, s_fload_n3, s_dload, s_dload_n0, s_dload_n1, s_dload_n2, s_dload_n3, s_aload, s_aload_n0, s_aload_n1, s_aload_n2, s_aload_n3, s_istore, s_istore_n0, s_istore_n1, s_istore_n2, s_istore_n3, s_lstore, s_lstore_n0, s_lstore_n1, s_lstore_n2, s_lstore_n3, s_fstore, s_fstore_n0, s_fstore_n1, s_fstore_n2, s_fstore_n3, s_dstore, s_dstore_n0, s_dstore_n1, s_dstore_n2, s_dstore_n3, s_astore, s_astore_n0, s_astore_n1, s_astore_n2, s_astore_n3, s_astoreN_n, s_iinc, s_if_eq, s_if_lt, s_if_ge, s_if_gt, s_if_le, s_if_ne, s_ic_eq, s_ic_lt, s_ic_ge, s_ic_gt, s_ic_le, s_ic_ne, s_ifnn_r, s_ifnn_n, s_goto, s_nop, s_tab, s_getfield, s_putfield, s_anewarray, s_newarray, s_iaload, s_baload, s_caload, s_laload, s_daload, s_aaload, s_iastore, s_bastore, s_castore, s_lastore, s_dastore, s_aastore, s_arraylength, s_lreturn, s_freturn, s_dreturn, s_areturn, s_return, s_new, s_thr, ld_Z, ld_S, kl_Z, pd_0, pd_c, pd_n, ag_i, ag_r, ag_l, ag_n, st_Z, st_On, st_Oi, st_Or, st_Ol, st_S, s2_eq, mk_t, mk_f, mk_n, cl_v, cl_n, cl_if, vl_0, vl_1, vl_2, cv_i, cv_l, cv_d, cv_f, rf_s, qW_n, qW_i, qW_l, qW_r, qMem, x_get, x_putI, x_putL, x_ldL, x_ldI, x_ldA, x_stL, x_stI, x_isO, MK_1, MK_21, List.set_cons_zero, List.set_cons_succ, List.getElem?_cons_zero, List.getElem?_cons_succ, Option.map_some, List.tail_cons, i64_32, Nat.zero_add, Nat.reduceAdd, Nat.reduceLeDiff, Nat.le_refl, if_true, if_false, ite_true, ite_false, reduceIte, lnO, rfO, fn_0, f_0_0, f_0_1, f_0_2, f_0_3, f_0_4, f_0_5, f_0_6, f_0_7, f_0_8, f_0_9, f_0_10, f_0_11, f_0_12, f_0_13, f_0_14, fn_1, f_1_0, f_1_1, f_1_2, f_1_3, f_1_4, fn_2, f_2_0, f_2_1, f_2_2, f_2_3, f_2_4, f_2_5, fn_3, f_3_0, f_3_1, f_3_2, f_3_3, fn_4, f_4_0, f_4_1, f_4_2, f_4_3, f_4_4, f_4_5, fn_5, f_5_0, f_5_1, f_5_2, fn_6, f_6_0, f_6_1, f_6_2, fn_7, f_7_0, f_7_1, f_7_2, f_7_3, f_7_4, fn_8, f_8_0, f_8_1, f_8_2, f_8_3, f_8_4, f_8_5, f_8_6, f_8_7, fn_9, f_9_0, f_9_1, f_9_2, f_9_3, f_9_4, f_9_5, fn_10, f_10_0, f_10_1, f_10_2, f_10_3, f_10_4, f_10_5, f_10_6, f_10_7, f_10_8, f_10_9, f_10_10, f_10_11, f_10_12, f_10_13, f_10_14, f_10_15, f_10_16, f_10_17, f_10_18, f_10_19, f_10_20, f_10_21, f_10_22, f_10_23, Nat.reduceLT, cv_t, x_ld3, x_ld2, x_st3, x_st2, rm_g2, rm_g3, rm_g4, rm_g5, rm_g6, rm_g7, rm_s2, rm_s3, rm_s4, rm_s5, rm_s6, rm_s7, rm_t, c24, c26, c42, q1, p0, p1, p2, p3, p4, if_neg c100, if_neg c101, if_neg c102, if_neg c103, if_pos c104, a4, h0, n1]
  rw [if_neg c104, if_neg c104]
  by_cases c105 : isK T L P 5
  · rw [if_pos c105, if_pos c105]
    simp -implicitDefEqProofs only [e23, K23_0, K23_1, K23_2, K23_3, K23_4, K23_5, K23_7, j23_1, j23_2, j23_3, j23_4, j23_5, j23_6, j23_7, s_iadd, s_isub, s_imul, s_ineg, s_iand, s_ior, s_ixor, s_ishl, s_ishr, s_iushr, s_i2l, s_l2i, s_i2b, s_i2c, s_ladd, s_lsub, s_lmul, s_lneg, s_land, s_lor, s_lshl, s_lshr, s_lushr, s_lcmp, s_l2d, s_l2f, s_i2d, s_i2f, s_idiv, s_ldiv, s_irem, s_lrem, s_dcmp, s_fcmp, s_ddiv, s_fdiv, s_f2d, s_dup_i, s_dup_r, s_dup2_l, s_dup2_ir, s_pop, s_iconst, s_bipush, s_sipush, s_lconst, s_fconst, s_dconst, s_ldc, s_ldc_w, s_ldc2_w, s_iload, s_iload_n0, s_iload_n1, s_iload_n2, s_iload_n3, s_lload, s_lload_n0, s_lload_n1, s_lload_n2, s_lload_n3, s_fload, s_fload_n0, s_fload_n1, s_fload_n2, s_fload_n3, s_dload, s_dload_n0, s_dload_n1, s_dload_n2, s_dload_n3, s_aload, s_aload_n0, s_aload_n1, s_aload_n2, s_aload_n3, s_istore, s_istore_n0, s_istore_n1, s_istore_n2, s_istore_n3, s_lstore, s_lstore_n0, s_lstore_n1, s_lstore_n2, s_lstore_n3, s_fstore, s_fstore_n0, s_fstore_n1, s_fstore_n2, s_fstore_n3, s_dstore, s_dstore_n0, s_dstore_n1, s_dstore_n2, s_dstore_n3, s_astore, s_astore_n0, s_astore_n1, s_astore_n2, s_astore_n3, s_astoreN_n, s_iinc, s_if_eq, s_if_lt, s_if_ge, s_if_gt, s_if_le, s_if_ne, s_ic_eq, s_ic_lt, s_ic_ge, s_ic_gt, s_ic_le, s_ic_ne, s_ifnn_r, s_ifnn_n, s_goto, s_nop, s_tab, s_getfield, s_putfield, s_anewarray, s_newarray, s_iaload, s_baload, s_caload, s_laload, s_daload, s_aaload, s_iastore, s_bastore, s_castore, s_lastore, s_dastore, s_aastore, s_arraylength, s_lreturn, s_freturn, s_dreturn, s_areturn, s_return, s_new, s_thr, ld_Z, ld_S, kl_Z, pd_0, pd_c, pd_n, ag_i, ag_r, ag_l, ag_n, st_Z, st_On, st_Oi, st_Or, st_Ol, st_S, s2_eq, mk_t, mk_f, mk_n, cl_v, cl_n, cl_if, vl_0, vl_1, vl_2, cv_i, cv_l, cv_d, cv_f, rf_s, qW_n, qW_i, qW_l, qW_r, qMem, x_get, x_putI, x_putL, x_ldL, x_ldI, x_ldA, x_stL, x_stI, x_isO, MK_1, MK_21, List.set_cons_zero, List.set_cons_succ, List.getElem?_cons_zero, List.getElem?_cons_succ, Option.map_some, List.tail_cons, i64_32, Nat.zero_add, Nat.reduceAdd, Nat.reduceLeDiff, Nat.le_refl, if_true, if_false, ite_true, ite_false, reduceIte, lnO, rfO, fn_0, f_0_0, f_0_1, f_0_2, f_0_3, f_0_4, f_0_5, f_0_6, f_0_7, f_0_8, f_0_9, f_0_10, f_0_11, f_0_12, f_0_13, f_0_14, fn_1, f_1_0, f_1_1, f_1_2, f_1_3, f_1_4, fn_2, f_2_0, f_2_1, f_2_2, f_2_3, f_2_4, f_2_5, fn_3, f_3_0, f_3_1, f_3_2, f_3_3, fn_4, f_4_0, f_4_1, f_4_2, f_4_3, f_4_4, f_4_5, fn_5, f_5_0, f_5_1, f_5_2, fn_6, f_6_0, f_6_1, f_6_2, fn_7, f_7_0, f_7_1, f_7_2, f_7_3, f_7_4, fn_8, f_8_0, f_8_1, f_8_2, f_8_3, f_8_4, f_8_5, f_8_6, f_8_7, fn_9, f_9_0, f_9_1, f_9_2, f_9_3, f_9_4, f_9_5, fn_10, f_10_0, f_10_1, f_10_2, f_10_3, f_10_4, f_10_5, f_10_6, f_10_7, f_10_8, f_10_9, f_10_10, f_10_11, f_10_12, f_10_13, f_10_14, f_10_15, f_10_16, f_10_17, f_10_18, f_10_19, f_10_20, f_10_21, f_10_22, f_10_23, Nat.reduceLT, cv_t, x_ld3, x_ld2, x_st3, x_st2, rm_g2, rm_g3, rm_g4, rm_g5, rm_g6, rm_g7, rm_s2, rm_s3, rm_s4, rm_s5, rm_s6, rm_s7, rm_t, c24, c26, c44, q1, p0, p1, p2, p3, p4, p5, if_neg c100, if_neg c101, if_neg c102, if_neg c103, if_neg c104, if_pos c105, a5, h0, n1]
  rw [if_neg c105, if_neg c105]
  simp -implicitDefEqProofs only [e23, K23_0, K23_1, K23_2, K23_3, K23_4, K23_5, K23_6, K23_7, j23_1, j23_2, j23_3, j23_4, j23_5, j23_6, j23_7, s_iadd, s_isub, s_imul, s_ineg, s_iand, s_ior, s_ixor, s_ishl, s_ishr, s_iushr, s_i2l, s_l2i, s_i2b, s_i2c, s_ladd, s_lsub, s_lmul, s_lneg, s_land, s_lor, s_lshl, s_lshr, s_lushr, s_lcmp, s_l2d, s_l2f, s_i2d, s_i2f, s_idiv, s_ldiv, s_irem, s_lrem, s_dcmp, s_fcmp, s_ddiv, s_fdiv, s_f2d, s_dup_i, s_dup_r, s_dup2_l, s_dup2_ir, s_pop, s_iconst, s_bipush, s_sipush, s_lconst, s_fconst, s_dconst, s_ldc, s_ldc_w, s_ldc2_w, s_iload, s_iload_n0, s_iload_n1, s_iload_n2, s_iload_n3, s_lload, s_lload_n0, s_lload_n1, s_lload_n2, s_lload_n3, s_fload, s_fload_n0, s_fload_n1, s_fload_n2, s_fload_n3, s_dload, s_dload_n0, s_dload_n1, s_dload_n2, s_dload_n3, s_aload, s_aload_n0, s_aload_n1, s_aload_n2, s_aload_n3, s_istore, s_istore_n0, s_istore_n1, s_istore_n2, s_istore_n3, s_lstore, s_lstore_n0, s_lstore_n1, s_lstore_n2, s_lstore_n3, s_fstore, s_fstore_n0, s_fstore_n1, s_fstore_n2, s_fstore_n3, s_dstore, s_dstore_n0, s_dstore_n1, s_dstore_n2, s_dstore_n3, s_astore, s_astore_n0, s_astore_n1, s_astore_n2, s_astore_n3, s_astoreN_n, s_iinc, s_if_eq, s_if_lt, s_if_ge, s_if_gt, s_if_le, s_if_ne, s_ic_eq, s_ic_lt, s_ic_ge, s_ic_gt, s_ic_le, s_ic_ne, s_ifnn_r, s_ifnn_n, s_goto, s_nop, s_tab, s_getfield, s_putfield, s_anewarray, s_newarray, s_iaload, s_baload, s_caload, s_laload, s_daload, s_aaload, s_iastore, s_bastore, s_castore, s_lastore, s_dastore, s_aastore, s_arraylength, s_lreturn, s_freturn, s_dreturn, s_areturn, s_return, s_new, s_thr, ld_Z, ld_S, kl_Z, pd_0, pd_c, pd_n, ag_i, ag_r, ag_l, ag_n, st_Z, st_On, st_Oi, st_Or, st_Ol, st_S, s2_eq, mk_t, mk_f, mk_n, cl_v, cl_n, cl_if, vl_0, vl_1, vl_2, cv_i, cv_l, cv_d, cv_f, rf_s, qW_n, qW_i, qW_l, qW_r, qMem, x_get, x_putI, x_putL, x_ldL, x_ldI, x_ldA, x_stL, x_stI, x_isO, MK_1, MK_21, List.set_cons_zero, List.set_cons_succ, List.getElem?_cons_zero, List.getElem?_cons_succ, Option.map_some, List.tail_cons, i64_32, Nat.zero_add, Nat.reduceAdd, Nat.reduceLeDiff, Nat.le_refl, if_true, if_false, ite_true, ite_false, reduceIte, lnO, rfO, fn_0, f_0_0, f_0_1, f_0_2, f_0_3, f_0_4, f_0_5, f_0_6, f_0_7, f_0_8, f_0_9, f_0_10, f_0_11, f_0_12, f_0_13, f_0_14, fn_1, f_1_0, f_1_1, f_1_2, f_1_3, f_1_4, fn_2, f_2_0, f_2_1, f_2_2, f_2_3, f_2_4, f_2_5, fn_3, f_3_0, f_3_1, f_3_2, f_3_3, fn_4, f_4_0, f_4_1, f_4_2, f_4_3, f_4_4, f_4_5, fn_5, f_5_0, f_5_1, f_5_2, fn_6, f_6_0, f_6_1, f_6_2, fn_7, f_7_0, f_7_1, f_7_2, f_7_3, f_7_4, fn_8, f_8_0, f_8_1, f_8_2, f_8_3, f_8_4, f_8_5, f_8_6, f_8_7, fn_9, f_9_0, f_9_1, f_9_2, f_9_3, f_9_4, f_9_5, fn_10, f_10_0, f_10_1, f_10_2, f_10_3, f_10_4, f_10_5, f_10_6, f_10_7, f_10_8, f_10_9, f_10_10, f_10_11, f_10_12, f_10_13, f_10_14, f_10_15, f_10_16, f_10_17, f_10_18, f_10_19, f_10_20, f_10_21, f_10_22, f_10_23, Nat.reduceLT, cv_t, x_ld3, x_ld2, x_st3, x_st2, rm_g2, rm_g3, rm_g4, rm_g5, rm_g6, rm_g7, rm_s2, rm_s3, rm_s4, rm_s5, rm_s6, rm_s7, rm_t, c24, c26, c29, q1, p0, p1, p2, p3, p4, p5, if_neg c100, if_neg c101, if_neg c102, if_neg c103, if_neg c104, if_neg c105, a6, h0, n1]
/-- all statements -/
def rdL (T : Nat → Int64) (L : Nat) : Nat → Nat → PS → Row → PS × Row × Int32
  | 0, i, P, D => (P, D, nI i)
  | k + 1, i, P, D => if seR T L (stP T L (nI i) P D) = 0 then (seP T L (nI i) (stP T L (nI i) P D), stD T L (nI i) P D, nI i) else rdL T L k (i + 1) (seP T L (nI i) (stP T L (nI i) P D)) (stD T L (nI i) P D)
theorem seR_01 : seR T L P = 0 ∨ seR T L P = 1 := by
  unfold seR
  split
  · exact Or.inl rfl
  · split
    · exact Or.inr rfl
    · exact Or.inl rfl
theorem seP_gt (h : ¬ seR T L P = 0) : P.1 + 1 ≤ (seP T L st P).1 := by
  have h1 := skP_ge (T := T) (L := L) (P := P)
  unfold seR at h
  unfold seP
  by_cases hq : ¬ P.2.1 = 0 ∨ L ≤ (skP T L P).1
  · rw [if_pos hq] at h
    exact absurd rfl h
  · rw [if_neg hq] at h ⊢
    by_cases hc : (T (skP T L P).1).toInt32 = 59
    · rw [if_pos hc]
      show P.1 + 1 ≤ (skP T L P).1 + 1
      omega
    · rw [if_neg hc] at h
      exact absurd rfl h
theorem t20_loop (hR : RL y r) (hL : L ≤ 900) (hT : TX G y μ r) : ∀ (k i : Nat) (st : Int32) (P : PS) (D : Row), i + k = 901 → i ≤ P.1 → P.1 ≤ L → CtX D →
    qR PG G (20, K20_1, [some (.ref r), some (.int 1), some (.int (nI i))], [], MK y (RM μ r L st P T D) n s) = some (.inl none, MK y (RM μ r 0 (rdL T L k i P D).2.2 (rdL T L k i P D).1 T (rdL T L k i P D).2.1) n s) := by
  have hR' := hR
  obtain ⟨h0, h1, h2⟩ := hR
  have n1 : ((1 : Int32) = 0) = False := by decide
  have z0 : (0 : Int32) = nI 0 := rfl
  intro k
  induction k with
  | zero =>
    intro i st P D h9 h10 h11
    omega
  | succ k ih =>
    intro i st P D h9 h10 h11 hC
    have i1 : ¬ (900 : Int32) < nI i := by rw [show (900 : Int32) = nI 900 from rfl, mI_lt (by omega) (by omega)]; omega
    have q1 := t23 (G := G) (μ := μ) (L := L) (st := nI i) (P := P) (T := T) (D := D) (n := n) (s := s) hR' hL h11 hT hC
    have h12 := stP_le (T := T) (st := nI i) (D := D) h11
    have h13 := stP_ge (T := T) (L := L) (st := nI i) (P := P) (D := D)
    have q2 := t45 (G := G) (μ := μ) (L := L) (st := nI i) (P := stP T L (nI i) P D) (T := T) (D := stD T L (nI i) P D) (n := n) (s := s) hR' hL h12
    have hC2 := stD_ct (T := T) (L := L) (st := nI i) (P := P) hC
    have h14 := seP_le (T := T) (st := nI i) h12
    have h15 := seP_gt (T := T) (L := L) (st := nI i) (P := stP T L (nI i) P D)
    have h16 := seR_01 (T := T) (L := L) (P := stP T L (nI i) P D)
    rw [rdL]
    generalize stD T L (nI i) P D = D1 at q1 q2 hC2 ⊢
    generalize stP T L (nI i) P D = P1 at q1 q2 h12 h13 h14 h15 h16 ⊢
    generalize seP T L (nI i) P1 = P2 at q2 h14 h15 ⊢
    conv => lhs; unfold K20_1
    rcases h16 with h16 | h16
    · rw [if_pos h16]
      rw [h16] at q2
      have q3 : stc (RM μ r L (nI i) P2 T D1) r (sv (RM μ r L (nI i) P2 T D1 r) 2 (Int32.toInt64 0)) = RM μ r 0 (nI i) P2 T D1 := rm_s2 (q := 0)
      simp -implicitDefEqProofs only [j20_1, j20_2, K20_1, K20_2, s_iadd, s_isub, s_imul, s_ineg, s_iand, s_ior, s_ixor, s_ishl, s_ishr, s_iushr, s_i2l, s_l2i, s_i2b, s_i2c, s_ladd, s_lsub, s_lmul, s_lneg, s_land, s_lor, s_lshl, s_lshr, s_lushr, s_lcmp, s_l2d, s_l2f, s_i2d, s_i2f, s_idiv, s_ldiv, s_irem, s_lrem, s_dcmp, s_fcmp, s_ddiv, s_fdiv, s_f2d, s_dup_i, s_dup_r, s_dup2_l, s_dup2_ir, s_pop, s_iconst, s_bipush, s_sipush, s_lconst, s_fconst, s_dconst, s_ldc, s_ldc_w, s_ldc2_w, s_iload, s_iload_n0, s_iload_n1, s_iload_n2, s_iload_n3, s_lload, s_lload_n0, s_lload_n1, s_lload_n2, s_lload_n3, s_fload, s_fload_n0, s_fload_n1, s_fload_n2, s_fload_n3, s_dload, s_dload_n0, s_dload_n1, s_dload_n2, s_dload_n3, s_aload, s_aload_n0, s_aload_n1, s_aload_n2, s_aload_n3, s_istore, s_istore_n0, s_istore_n1, s_istore_n2, s_istore_n3, s_lstore, s_lstore_n0, s_lstore_n1, s_lstore_n2, s_lstore_n3, s_fstore, s_fstore_n0, s_fstore_n1, s_fstore_n2, s_fstore_n3, s_dstore, s_dstore_n0, s_dstore_n1, s_dstore_n2, s_dstore_n3, s_astore, s_astore_n0, s_astore_n1, s_astore_n2, s_astore_n3, s_astoreN_n, s_iinc, s_if_eq, s_if_lt, s_if_ge, s_if_gt, s_if_le, s_if_ne, s_ic_eq, s_ic_lt, s_ic_ge, s_ic_gt, s_ic_le, s_ic_ne, s_ifnn_r, s_ifnn_n, s_goto, s_nop, s_tab, s_getfield, s_putfield, s_anewarray, s_newarray, s_iaload, s_baload, s_caload, s_laload, s_daload, s_aaload, s_iastore, s_bastore, s_castore, s_lastore, s_dastore, s_aastore, s_arraylength, s_lreturn, s_freturn, s_dreturn, s_areturn, s_return, s_new, s_thr, ld_Z, ld_S, kl_Z, pd_0, pd_c, pd_n, ag_i, ag_r, ag_l, ag_n, st_Z, st_On, st_Oi, st_Or, st_Ol, st_S, s2_eq, mk_t, mk_f, mk_n, cl_v, cl_n, cl_if, vl_0, vl_1, vl_2, cv_i, cv_l, cv_d, cv_f, rf_s, qW_n, qW_i, qW_l, qW_r, qMem, x_get, x_putI, x_putL, x_ldL, x_ldI, x_ldA, x_stL, x_stI, x_isO, MK_1, MK_21, List.set_cons_zero, List.set_cons_succ, List.getElem?_cons_zero, List.getElem?_cons_succ, Option.map_some, List.tail_cons, i64_32, Nat.zero_add, Nat.reduceAdd, Nat.reduceLeDiff, Nat.le_refl, if_true, if_false, ite_true, ite_false, reduceIte, lnO, rfO, fn_0, f_0_0, f_0_1, f_0_2, f_0_3, f_0_4, f_0_5, f_0_6, f_0_7, f_0_8, f_0_9, f_0_10, f_0_11, f_0_12, f_0_13, f_0_14, fn_1, f_1_0, f_1_1, f_1_2, f_1_3, f_1_4, fn_2, f_2_0, f_2_1, f_2_2, f_2_3, f_2_4, f_2_5, fn_3, f_3_0, f_3_1, f_3_2, f_3_3, fn_4, f_4_0, f_4_1, f_4_2, f_4_3, f_4_4, f_4_5, fn_5, f_5_0, f_5_1, f_5_2, fn_6, f_6_0, f_6_1, f_6_2, fn_7, f_7_0, f_7_1, f_7_2, f_7_3, f_7_4, fn_8, f_8_0, f_8_1, f_8_2, f_8_3, f_8_4, f_8_5, f_8_6, f_8_7, fn_9, f_9_0, f_9_1, f_9_2, f_9_3, f_9_4, f_9_5, fn_10, f_10_0, f_10_1, f_10_2, f_10_3, f_10_4, f_10_5, f_10_6, f_10_7, f_10_8, f_10_9, f_10_10, f_10_11, f_10_12, f_10_13, f_10_14, f_10_15, f_10_16, f_10_17, f_10_18, f_10_19, f_10_20, f_10_21, f_10_22, f_10_23, Nat.reduceLT, cv_t, x_ld3, x_ld2, x_st3, x_st2, rm_g2, rm_g3, rm_g4, rm_g5, rm_g6, rm_g7, rm_s2, rm_s3, rm_s4, rm_s5, rm_s6, rm_s7, rm_t, c23, c45, q1, q2, q3, h0, i1, n1, mI_inc]
    · have h17 := h15 (by rw [h16]; decide)
      rw [if_neg (by rw [h16]; decide)]
      rw [h16] at q2
      rw [← ih (i + 1) (nI i) P2 D1 (by omega) (by omega) h14 hC2]
      simp -implicitDefEqProofs only [j20_1, j20_2, s_iadd, s_isub, s_imul, s_ineg, s_iand, s_ior, s_ixor, s_ishl, s_ishr, s_iushr, s_i2l, s_l2i, s_i2b, s_i2c, s_ladd, s_lsub, s_lmul, s_lneg, s_land, s_lor, s_lshl, s_lshr, s_lushr, s_lcmp, s_l2d, s_l2f, s_i2d, s_i2f, s_idiv, s_ldiv, s_irem, s_lrem, s_dcmp, s_fcmp, s_ddiv, s_fdiv, s_f2d, s_dup_i, s_dup_r, s_dup2_l, s_dup2_ir, s_pop, s_iconst, s_bipush, s_sipush, s_lconst, s_fconst, s_dconst, s_ldc, s_ldc_w, s_ldc2_w, s_iload, s_iload_n0, s_iload_n1, s_iload_n2, s_iload_n3, s_lload, s_lload_n0, s_lload_n1, s_lload_n2, s_lload_n3, s_fload, s_fload_n0, s_fload_n1, s_fload_n2, s_fload_n3, s_dload, s_dload_n0, s_dload_n1, s_dload_n2, s_dload_n3, s_aload, s_aload_n0, s_aload_n1, s_aload_n2, s_aload_n3, s_istore, s_istore_n0, s_istore_n1, s_istore_n2, s_istore_n3, s_lstore, s_lstore_n0, s_lstore_n1, s_lstore_n2, s_lstore_n3, s_fstore, s_fstore_n0, s_fstore_n1, s_fstore_n2, s_fstore_n3, s_dstore, s_dstore_n0, s_dstore_n1, s_dstore_n2, s_dstore_n3, s_astore, s_astore_n0, s_astore_n1, s_astore_n2, s_astore_n3, s_astoreN_n, s_iinc, s_if_eq, s_if_lt, s_if_ge, s_if_gt, s_if_le, s_if_ne, s_ic_eq, s_ic_lt, s_ic_ge, s_ic_gt, s_ic_le, s_ic_ne, s_ifnn_r, s_ifnn_n, s_goto, s_nop, s_tab, s_getfield, s_putfield, s_anewarray, s_newarray, s_iaload, s_baload, s_caload, s_laload, s_daload, s_aaload, s_iastore, s_bastore, s_castore, s_lastore, s_dastore, s_aastore, s_arraylength, s_lreturn, s_freturn, s_dreturn, s_areturn, s_return, s_new, s_thr, ld_Z, ld_S, kl_Z, pd_0, pd_c, pd_n, ag_i, ag_r, ag_l, ag_n, st_Z, st_On, st_Oi, st_Or, st_Ol, st_S, s2_eq, mk_t, mk_f, mk_n, cl_v, cl_n, cl_if, vl_0, vl_1, vl_2, cv_i, cv_l, cv_d, cv_f, rf_s, qW_n, qW_i, qW_l, qW_r, qMem, x_get, x_putI, x_putL, x_ldL, x_ldI, x_ldA, x_stL, x_stI, x_isO, MK_1, MK_21, List.set_cons_zero, List.set_cons_succ, List.getElem?_cons_zero, List.getElem?_cons_succ, Option.map_some, List.tail_cons, i64_32, Nat.zero_add, Nat.reduceAdd, Nat.reduceLeDiff, Nat.le_refl, if_true, if_false, ite_true, ite_false, reduceIte, lnO, rfO, fn_0, f_0_0, f_0_1, f_0_2, f_0_3, f_0_4, f_0_5, f_0_6, f_0_7, f_0_8, f_0_9, f_0_10, f_0_11, f_0_12, f_0_13, f_0_14, fn_1, f_1_0, f_1_1, f_1_2, f_1_3, f_1_4, fn_2, f_2_0, f_2_1, f_2_2, f_2_3, f_2_4, f_2_5, fn_3, f_3_0, f_3_1, f_3_2, f_3_3, fn_4, f_4_0, f_4_1, f_4_2, f_4_3, f_4_4, f_4_5, fn_5, f_5_0, f_5_1, f_5_2, fn_6, f_6_0, f_6_1, f_6_2, fn_7, f_7_0, f_7_1, f_7_2, f_7_3, f_7_4, fn_8, f_8_0, f_8_1, f_8_2, f_8_3, f_8_4, f_8_5, f_8_6, f_8_7, fn_9, f_9_0, f_9_1, f_9_2, f_9_3, f_9_4, f_9_5, fn_10, f_10_0, f_10_1, f_10_2, f_10_3, f_10_4, f_10_5, f_10_6, f_10_7, f_10_8, f_10_9, f_10_10, f_10_11, f_10_12, f_10_13, f_10_14, f_10_15, f_10_16, f_10_17, f_10_18, f_10_19, f_10_20, f_10_21, f_10_22, f_10_23, Nat.reduceLT, cv_t, x_ld3, x_ld2, x_st3, x_st2, rm_g2, rm_g3, rm_g4, rm_g5, rm_g6, rm_g7, rm_s2, rm_s3, rm_s4, rm_s5, rm_s6, rm_s7, rm_t, c23, c45, q1, q2, h0, i1, n1, mI_inc]
theorem kClr_ct : Ct (kClr D) 0 0 0 0 0 := by
  have h : ∀ i, i < 5 → kClr D i = 0 := by
    have h0 : ∀ i, i < 5 → kClr0 D i = 0 := by
      intro i hi
      unfold kClr0
      have : i = 0 ∨ i = 1 ∨ i = 2 ∨ i = 3 ∨ i = 4 := by omega
      rcases this with rfl | rfl | rfl | rfl | rfl <;> rfl
    have hn : ∀ k i, i < 5 → kClrN (kClr0 D) k i = 0 := by
      intro k
      induction k with
      | zero => exact h0
      | succ k ih =>
        intro i hi
        rw [kClrN, sv_get, if_neg (by omega)]
        exact ih i hi
    intro i hi
    unfold kClr
    rw [sv_get, if_neg (by omega), sv_get, if_neg (by omega)]
    exact hn 6 i hi
  refine ⟨?_, Nat.zero_le _, ?_, Nat.zero_le _, ?_, Nat.zero_le _, ?_, Nat.zero_le _, ?_, Nat.zero_le _⟩ <;> rw [h _ (by decide)] <;> rfl
noncomputable def rdA (T : Nat → Int64) (L : Nat) (P : PS) (D : Row) : PS × Row × Int32 := rdL T L 901 0 (0, 0, P.2.2.1, -1) (kClr D)
theorem t20 (hR : RL y r) (hL : L ≤ 900) (hT : TX G y μ r) : qR PG G (qEntry PG 20 [.ref r] (MK y (RM μ r L st P T D) n s)) = some (.inl none, MK y (RM μ r 0 (rdA T L P D).2.2 (rdA T L P D).1 T (rdA T L P D).2.1) n s) := by
  have hR' := hR
  have q0 : qR PG G (qEntry PG 21 [.ref (r + 2)] (MK y (RM μ r L st P T D) n s)) = some (.inl none, MK y (RM μ r L st P T (kClr D)) n s) := t21 hR.2.2
  have q1 := t20_loop (G := G) (μ := μ) (L := L) (T := T) (n := n) (s := s) hR hL hT 901 0 st (0, 0, P.2.2.1, -1) (kClr D) rfl (Nat.zero_le _) (Nat.zero_le _) ⟨_, _, _, _, _, kClr_ct⟩
  unfold rdA
  rw [← q1]
  obtain ⟨h0, h1, h2⟩ := hR
  have q3 : stc (RM μ r L st P T (kClr D)) r (sv (RM μ r L st P T (kClr D) r) 3 (Int32.toInt64 0)) = RM μ r L st (0, P.2) T (kClr D) := rm_s3 (q := 0)
  have z0 : nI 0 = 0 := rfl
  simp -implicitDefEqProofs only [e20, K20_0, j20_1, s_iadd, s_isub, s_imul, s_ineg, s_iand, s_ior, s_ixor, s_ishl, s_ishr, s_iushr, s_i2l, s_l2i, s_i2b, s_i2c, s_ladd, s_lsub, s_lmul, s_lneg, s_land, s_lor, s_lshl, s_lshr, s_lushr, s_lcmp, s_l2d, s_l2f, s_i2d, s_i2f, s_idiv, s_ldiv, s_irem, s_lrem, s_dcmp, s_fcmp, s_ddiv, s_fdiv, s_f2d, s_dup_i, s_dup_r, s_dup2_l, s_dup2_ir, s_pop, s_iconst, s_bipush, s_sipush, s_lconst, s_fconst, s_dconst, s_ldc, s_ldc_w, s_ldc2_w, s_iload, s_iload_n0, s_iload_n1, s_iload_n2, s_iload_n3, s_lload, s_lload_n0, s_lload_n1, s_lload_n2, s_lload_n3, s_fload, s_fload_n0, s_fload_n1, s_fload_n2, s_fload_n3, s_dload, s_dload_n0, s_dload_n1, s_dload_n2, s_dload_n3, s_aload, s_aload_n0, s_aload_n1, s_aload_n2, s_aload_n3, s_istore, s_istore_n0, s_istore_n1, s_istore_n2, s_istore_n3, s_lstore, s_lstore_n0, s_lstore_n1, s_lstore_n2, s_lstore_n3, s_fstore, s_fstore_n0, s_fstore_n1, s_fstore_n2, s_fstore_n3, s_dstore, s_dstore_n0, s_dstore_n1, s_dstore_n2, s_dstore_n3, s_astore, s_astore_n0, s_astore_n1, s_astore_n2, s_astore_n3, s_astoreN_n, s_iinc, s_if_eq, s_if_lt, s_if_ge, s_if_gt, s_if_le, s_if_ne, s_ic_eq, s_ic_lt, s_ic_ge, s_ic_gt, s_ic_le, s_ic_ne, s_ifnn_r, s_ifnn_n, s_goto, s_nop, s_tab, s_getfield, s_putfield, s_anewarray, s_newarray, s_iaload, s_baload, s_caload, s_laload, s_daload, s_aaload, s_iastore, s_bastore, s_castore, s_lastore, s_dastore, s_aastore, s_arraylength, s_lreturn, s_freturn, s_dreturn, s_areturn, s_return, s_new, s_thr, ld_Z, ld_S, kl_Z, pd_0, pd_c, pd_n, ag_i, ag_r, ag_l, ag_n, st_Z, st_On, st_Oi, st_Or, st_Ol, st_S, s2_eq, mk_t, mk_f, mk_n, cl_v, cl_n, cl_if, vl_0, vl_1, vl_2, cv_i, cv_l, cv_d, cv_f, rf_s, qW_n, qW_i, qW_l, qW_r, qMem, x_get, x_putI, x_putL, x_ldL, x_ldI, x_ldA, x_stL, x_stI, x_isO, MK_1, MK_21, List.set_cons_zero, List.set_cons_succ, List.getElem?_cons_zero, List.getElem?_cons_succ, Option.map_some, List.tail_cons, i64_32, Nat.zero_add, Nat.reduceAdd, Nat.reduceLeDiff, Nat.le_refl, if_true, if_false, ite_true, ite_false, reduceIte, lnO, rfO, fn_0, f_0_0, f_0_1, f_0_2, f_0_3, f_0_4, f_0_5, f_0_6, f_0_7, f_0_8, f_0_9, f_0_10, f_0_11, f_0_12, f_0_13, f_0_14, fn_1, f_1_0, f_1_1, f_1_2, f_1_3, f_1_4, fn_2, f_2_0, f_2_1, f_2_2, f_2_3, f_2_4, f_2_5, fn_3, f_3_0, f_3_1, f_3_2, f_3_3, fn_4, f_4_0, f_4_1, f_4_2, f_4_3, f_4_4, f_4_5, fn_5, f_5_0, f_5_1, f_5_2, fn_6, f_6_0, f_6_1, f_6_2, fn_7, f_7_0, f_7_1, f_7_2, f_7_3, f_7_4, fn_8, f_8_0, f_8_1, f_8_2, f_8_3, f_8_4, f_8_5, f_8_6, f_8_7, fn_9, f_9_0, f_9_1, f_9_2, f_9_3, f_9_4, f_9_5, fn_10, f_10_0, f_10_1, f_10_2, f_10_3, f_10_4, f_10_5, f_10_6, f_10_7, f_10_8, f_10_9, f_10_10, f_10_11, f_10_12, f_10_13, f_10_14, f_10_15, f_10_16, f_10_17, f_10_18, f_10_19, f_10_20, f_10_21, f_10_22, f_10_23, Nat.reduceLT, cv_t, x_ld3, x_ld2, x_st3, x_st2, rm_g2, rm_g3, rm_g4, rm_g5, rm_g6, rm_g7, rm_s2, rm_s3, rm_s4, rm_s5, rm_s6, rm_s7, rm_t, c21, q0, q3, z0, h0, h2.1]
end RD4
