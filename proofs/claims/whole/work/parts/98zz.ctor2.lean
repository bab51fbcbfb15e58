/-! ===== What is made new, 2: the steps of a constructor ===== -/
section CT2
variable {G : qG} {y y' : Nat → Option qSh} {μ μ' ν : qMu} {n n' s s' a b k ci t len m p1 l1 p2 l2 p3 l3 p4 l4 p5 l5 w w2 w3 j j2 j3 : Nat} {sh : qSh} {fds : List (Nat × Nat)} {lk1 lk2 lk3 lk4 lk5 : List Nat} {cv1 cv2 cv3 cv4 cv5 : Value} {es : List qEnt} {L : qLV} {ic : Instr} {c : Int32} {tt : ArrayType}
/-- a constant onto the stack -/
def kst (G : qG) (m p l : Nat) (ic : Instr) (lk : List Nat) (cv : Value) (c : Int32) : Prop := ∀ (es : List qEnt) (L : qLV) (st : List Value) (h : qHp), qR PG G (m, (p, l, ic, lk, cv) :: es, L, st, h) = qR PG G (m, es, L, .int c :: st, h)
theorem kst_i {q : Int} : kst G m p1 l1 (.iconst q) lk1 (.int c) c := fun _ _ _ _ => s_iconst
theorem kst_b {q : Int} : kst G m p1 l1 (.bipush q) lk1 (.int c) c := fun _ _ _ _ => s_bipush
theorem kst_s {q : Int} : kst G m p1 l1 (.sipush q) lk1 (.int c) c := fun _ _ _ _ => s_sipush
theorem a0 {st : List Value} {h : qHp} : qR PG G (m, (p1, l1, .aload_n 0, lk1, cv1) :: es, some (.ref a) :: L, st, h) = qR PG G (m, es, some (.ref a) :: L, .ref a :: st, h) := by
  rw [s_aload_n0]
  rfl
/-- an int put into a field -/
theorem al_P (hc : kst G m p2 l2 ic lk2 cv2 c) (hy : y a = some (.inl (ci, fds))) (hk : fds[k]? = some (0, w2)) : qR PG G (m, (p1, l1, .aload_n 0, lk1, cv1) :: (p2, l2, ic, lk2, cv2) :: (p4, l4, .putfield j, [w, ci, k, 0], cv4) :: es, some (.ref a) :: L, [], MK y μ n s) = qR PG G (m, es, some (.ref a) :: L, [], MK y (stc μ a (sv (μ a) k c.toInt64)) n s) := by
  rw [a0, hc, s_putfield]
  dsimp only [qMem]
  rw [g_putI hy hk]
theorem pf (hy : y a = some (.inl (ci, fds))) (hk : k < fds.length) {r : Nat} : qR PG G (m, (p4, l4, .putfield j, [w, ci, k, 2], cv4) :: es, L, [.ref r, .ref a], MK y μ n s) = qR PG G (m, es, L, [], MK (yU y a (.inl (ci, fds.set k (2, r)))) μ n s) := by
  rw [s_putfield]
  dsimp only [qMem]
  rw [pR (z := 0) hy hk]
/-- an array of numbers -/
theorem al_N (hc : kst G m p2 l2 ic lk2 cv2 c) (hy : y a = some (.inl (ci, fds))) (hk : k < fds.length) (ha : a < n) (h0 : 0 ≤ c ∧ c.toNatClampNeg ≤ 1000000) (ht : t < 10) (hz : qZero t c.toNatClampNeg = qCell sh (fun _ => 0)) : qR PG G (m, (p1, l1, .aload_n 0, lk1, cv1) :: (p2, l2, ic, lk2, cv2) :: (p3, l3, .newarray tt, [t], cv3) :: (p4, l4, .putfield j, [w, ci, k, 2], cv4) :: es, some (.ref a) :: L, [], MK y μ n s) = qR PG G (m, es, some (.ref a) :: L, [], MK (yU (yU y n sh) a (.inl (ci, fds.set k (2, n)))) (stc μ n (fun _ => 0)) (n + 1) (s + c.toNatClampNeg)) := by
  rw [a0, hc, s_newarray]
  dsimp only [qMem]
  rw [if_pos ⟨h0.1, h0.2, ht⟩]
  dsimp only
  rw [nwR hz, MK_1]
  exact pf (by rw [yU_ne (by omega)]; exact hy) hk
/-- an array of references -/
theorem al_A (hc : kst G m p2 l2 ic lk2 cv2 c) (hy : y a = some (.inl (ci, fds))) (hk : k < fds.length) (ha : a < n) (h0 : 0 ≤ c ∧ c.toNatClampNeg ≤ 1000000) (ht : 10 ≤ t) : qR PG G (m, (p1, l1, .aload_n 0, lk1, cv1) :: (p2, l2, ic, lk2, cv2) :: (p3, l3, .anewarray j2, [w2, t], cv3) :: (p4, l4, .putfield j, [w, ci, k, 2], cv4) :: es, some (.ref a) :: L, [], MK y μ n s) = qR PG G (m, es, some (.ref a) :: L, [], MK (yU (yU y n (.inr (.inr (t, c.toNatClampNeg, fun _ => none)))) a (.inl (ci, fds.set k (2, n)))) (stc μ n (fun _ => 0)) (n + 1) (s + c.toNatClampNeg)) := by
  rw [a0, hc, s_anewarray]
  dsimp only [qMem]
  rw [if_pos ⟨h0.1, h0.2, ht⟩]
  dsimp only
  rw [nwA ht, MK_1]
  exact pf (by rw [yU_ne (by omega)]; exact hy) hk
/-- an object of its own -/
theorem al_O {cc sl m' kk : Nat} {sh' : List (Nat × Nat)} (hcc : cc < 100) (hk0 : kk = 1 ∨ kk = 2) (hm : 1 ≤ PG.2.2.2.1 m') (hn : ∀ y μ n s, qNewC (MK y μ n s) (.inr (cc, qBorn cc)) sl = MK (yU y n (.inl (cc, sh'))) (stc μ n (fun _ => 0)) (n + 1) (s + sl)) (hcall : qR PG G (qEntry PG m' [.ref n] (MK (yU y n (.inl (cc, sh'))) (stc μ n (fun _ => 0)) (n + 1) (s + sl))) = some (.inl none, MK y' μ' n' s')) (hy : y' a = some (.inl (ci, fds))) (hk : k < fds.length) : qR PG G (m, (p1, l1, .aload_n 0, lk1, cv1) :: (p2, l2, .new j, [w, cc, sl], cv2) :: (p3, l3, .dup, lk3, cv3) :: (p4, l4, .invokespecial j2, [kk, m', 1, w2], cv4) :: (p5, l5, .putfield j3, [w3, ci, k, 2], cv5) :: es, some (.ref a) :: L, [], MK y μ n s) = qR PG G (m, es, some (.ref a) :: L, [], MK (yU y' a (.inl (ci, fds.set k (2, n)))) μ' n' s') := by
  rw [a0, s_new hcc, MK_1, hn, s_dup_r, s_invokespecial (n := 1) (by omega) (by simp) (by simp [qW]) (by simpa [qArgs] using hm) (by rcases hk0 with rfl | rfl <;> rfl)]
  dsimp only [List.take, List.drop, List.reverse, List.reverseAux]
  rw [hcall, cl_n]
  exact pf hy hk
end CT2
