/-! ===== A Book as a row of numbers, in the model's own layout ===== -/
abbrev Row : Type := Nat → Int64
def bkIx (o k : Nat) : Option Nat :=
  if o = 0 then (if k = 0 then some 6 else if k = 1 then some 7 else if k = 2 then some 5 else if k < 8 then some (k - 3) else none)
  else if o = 1 then (if k < 4 then some (9 + k) else none)
  else if o = 2 then (if k < 6 then some (185 + k) else none)
  else if o = 7 then (if k = 1 then some 391 else if k = 2 then some 392 else none)
  else if o = 8 then (if k < 200 then some (191 + k) else none)
  else if o < 9 then none
  else if o < 19 then (if k = 0 then some (13 + 6 * (o - 9)) else if k = 1 then some (13 + 6 * (o - 9) + 5) else if k < 6 then some (13 + 6 * (o - 9) + (k - 1)) else none)
  else if o < 25 then (if k < 6 then some (73 + 6 * (o - 19) + k) else none)
  else if o < 29 then (if k = 0 then some (400 + (o - 25)) else if k < 5 then some (109 + 4 * (o - 25) + (k - 1)) else none)
  else if o < 41 then (if k < 5 then some (125 + 5 * (o - 29) + k) else none)
  else none
def bkInv (i : Nat) : Nat × Nat :=
  if i < 5 then (0, i + 3) else if i = 5 then (0, 2) else if i = 6 then (0, 0) else if i = 7 then (0, 1)
  else if i < 13 then (1, i - 9)
  else if i < 73 then (9 + (i - 13) / 6, if (i - 13) % 6 = 0 then 0 else if (i - 13) % 6 = 5 then 1 else (i - 13) % 6 + 1)
  else if i < 109 then (19 + (i - 73) / 6, (i - 73) % 6)
  else if i < 125 then (25 + (i - 109) / 4, (i - 109) % 4 + 1)
  else if i < 185 then (29 + (i - 125) / 5, (i - 125) % 5)
  else if i < 191 then (2, i - 185)
  else if i < 391 then (8, i - 191)
  else if i = 391 then (7, 1) else if i = 392 then (7, 2) else if i < 404 then (25 + (i - 400), 0) else (0, 100)
theorem bkIx_o {o k : Nat} (h : 41 ≤ o) : bkIx o k = none := by
  unfold bkIx
  rw [if_neg (by omega), if_neg (by omega), if_neg (by omega), if_neg (by omega), if_neg (by omega), if_neg (by omega), if_neg (by omega), if_neg (by omega), if_neg (by omega), if_neg (by omega)]
theorem bkIx_k {o k : Nat} (h : 200 ≤ k) : bkIx o k = none := by
  have h0 : ¬ k = 0 := by omega
  have h1 : ¬ k = 1 := by omega
  have h2 : ¬ k = 2 := by omega
  have h4 : ¬ k < 4 := by omega
  have h5 : ¬ k < 5 := by omega
  have h6 : ¬ k < 6 := by omega
  have h8 : ¬ k < 8 := by omega
  have h9 : ¬ k < 200 := by omega
  simp [bkIx, h0, h1, h2, h4, h5, h6, h8, h9]
theorem bkIx_inv {o k i : Nat} (h : bkIx o k = some i) : bkInv i = (o, k) := by
  have key : ∀ o, o < 41 → ∀ k, k < 200 → (match bkIx o k with
    | some i => decide (bkInv i = (o, k))
    | none => true) = true := by decide +kernel
  have ho : o < 41 := Nat.not_le.mp fun q => by rw [bkIx_o q] at h; cases h
  have hk : k < 200 := Nat.not_le.mp fun q => by rw [bkIx_k q] at h; cases h
  have := key o ho k hk
  rw [h] at this
  exact of_decide_eq_true this
/-- the memory with a Book at b that holds a row -/
def wr (μ : qMu) (b : Nat) (C : Row) : qMu := fun a j => if b ≤ a then (match bkIx (a - b) j with
  | some i => C i
  | none => μ a j) else μ a j
section ROW
variable {μ : qMu} {b : Nat} {C : Row}
theorem wr_get {o k i : Nat} (h : bkIx o k = some i) : wr μ b C (b + o) k = C i := by
  unfold wr
  rw [if_pos (Nat.le_add_right b o), Nat.add_sub_cancel_left, h]
theorem wr_set {o k i : Nat} {v : Int64} (h : bkIx o k = some i) : stc (wr μ b C) (b + o) (sv (wr μ b C (b + o)) k v) = wr μ b (sv C i v) := by
  funext a j
  unfold stc
  by_cases ha : a = b + o
  · subst ha
    rw [if_pos rfl]
    unfold sv
    by_cases hj : j = k
    · subst hj
      rw [if_pos rfl]
      unfold wr
      rw [if_pos (Nat.le_add_right b o), Nat.add_sub_cancel_left, h]
      simp
    · rw [if_neg hj]
      unfold wr
      rw [if_pos (Nat.le_add_right b o), if_pos (Nat.le_add_right b o), Nat.add_sub_cancel_left]
      cases hq : bkIx o j with
      | none => rfl
      | some i' =>
        dsimp only
        have hne : i' ≠ i := fun e => by
          subst e
          have := (bkIx_inv h).symm.trans (bkIx_inv hq)
          cases this
          exact hj rfl
        rw [if_neg hne]
  · rw [if_neg ha]
    unfold wr
    by_cases hb : b ≤ a
    · rw [if_pos hb, if_pos hb]
      cases hq : bkIx (a - b) j with
      | none => rfl
      | some i' =>
        dsimp only
        have hne : i' ≠ i := fun e => by
          subst e
          have := (bkIx_inv h).symm.trans (bkIx_inv hq)
          have h1 : o = a - b := congrArg Prod.fst this
          exact ha (by omega)
        rw [sv_get, if_neg hne]
    · rw [if_neg hb, if_neg hb]
theorem wr_out {a : Nat} (h : a < b ∨ b + 41 ≤ a) : wr μ b C a = μ a := by
  funext j
  unfold wr
  rcases h with h | h
  · rw [if_neg (by omega)]
  · rw [if_pos (by omega)]
    rw [bkIx_o (by omega)]
theorem wr_wr {D : Row} : wr (wr μ b C) b D = wr μ b D := by
  funext a j
  unfold wr
  by_cases hb : b ≤ a
  · simp only [if_pos hb]
    cases bkIx (a - b) j <;> rfl
  · simp only [if_neg hb]
/-- reading the row -/
def rd (μ : qMu) (b : Nat) : Row := fun i => μ (b + (bkInv i).1) (bkInv i).2
theorem wr_rd : wr μ b (rd μ b) = μ := by
  funext a j
  unfold wr
  by_cases hb : b ≤ a
  · rw [if_pos hb]
    cases hq : bkIx (a - b) j with
    | none => rfl
    | some i =>
      dsimp only
      unfold rd
      rw [bkIx_inv hq]
      dsimp only
      rw [show b + (a - b) = a by omega]
  · rw [if_neg hb]
-- the kinds
theorem wg_day : wr μ b C b 0 = C 6 := wr_get (o := 0) rfl
theorem wg_pool : wr μ b C b 1 = C 7 := wr_get (o := 0) rfl
theorem wg_people : wr μ b C b 2 = C 5 := wr_get (o := 0) rfl
theorem wg_ac : wr μ b C b 3 = C 0 := wr_get (o := 0) rfl
theorem wg_ec : wr μ b C b 4 = C 1 := wr_get (o := 0) rfl
theorem wg_fc : wr μ b C b 5 = C 2 := wr_get (o := 0) rfl
theorem wg_ic : wr μ b C b 6 = C 3 := wr_get (o := 0) rfl
theorem wg_bc : wr μ b C b 7 = C 4 := wr_get (o := 0) rfl
theorem ws_day {v : Int64} : stc (wr μ b C) b (sv (wr μ b C b) 0 v) = wr μ b (sv C 6 v) := wr_set (o := 0) rfl
theorem ws_pool {v : Int64} : stc (wr μ b C) b (sv (wr μ b C b) 1 v) = wr μ b (sv C 7 v) := wr_set (o := 0) rfl
theorem ws_people {v : Int64} : stc (wr μ b C) b (sv (wr μ b C b) 2 v) = wr μ b (sv C 5 v) := wr_set (o := 0) rfl
theorem ws_ac {v : Int64} : stc (wr μ b C) b (sv (wr μ b C b) 3 v) = wr μ b (sv C 0 v) := wr_set (o := 0) rfl
theorem ws_ec {v : Int64} : stc (wr μ b C) b (sv (wr μ b C b) 4 v) = wr μ b (sv C 1 v) := wr_set (o := 0) rfl
theorem ws_fc {v : Int64} : stc (wr μ b C) b (sv (wr μ b C b) 5 v) = wr μ b (sv C 2 v) := wr_set (o := 0) rfl
theorem ws_ic {v : Int64} : stc (wr μ b C) b (sv (wr μ b C b) 6 v) = wr μ b (sv C 3 v) := wr_set (o := 0) rfl
theorem ws_bc {v : Int64} : stc (wr μ b C) b (sv (wr μ b C b) 7 v) = wr μ b (sv C 4 v) := wr_set (o := 0) rfl
theorem wg_acc {k : Nat} (h : k < 4) : wr μ b C (b + 1) k = C (9 + k) := wr_get (by simp [bkIx, h])
theorem ws_acc {k : Nat} {v : Int64} (h : k < 4) : stc (wr μ b C) (b + 1) (sv (wr μ b C (b + 1)) k v) = wr μ b (sv C (9 + k) v) := wr_set (by simp [bkIx, h])
theorem wg_net {k : Nat} (h : k < 6) : wr μ b C (b + 2) k = C (185 + k) := wr_get (by simp [bkIx, h])
theorem ws_net {k : Nat} {v : Int64} (h : k < 6) : stc (wr μ b C) (b + 2) (sv (wr μ b C (b + 2)) k v) = wr μ b (sv C (185 + k) v) := wr_set (by simp [bkIx, h])
theorem wg_lc : wr μ b C (b + 7) 1 = C 391 := wr_get rfl
theorem wg_ll : wr μ b C (b + 7) 2 = C 392 := wr_get rfl
theorem ws_lc {v : Int64} : stc (wr μ b C) (b + 7) (sv (wr μ b C (b + 7)) 1 v) = wr μ b (sv C 391 v) := wr_set rfl
theorem ws_ll {v : Int64} : stc (wr μ b C) (b + 7) (sv (wr μ b C (b + 7)) 2 v) = wr μ b (sv C 392 v) := wr_set rfl
theorem wg_log {k : Nat} (h : k < 200) : wr μ b C (b + 8) k = C (191 + k) := wr_get (by simp [bkIx, h])
theorem ws_log {k : Nat} {v : Int64} (h : k < 200) : stc (wr μ b C) (b + 8) (sv (wr μ b C (b + 8)) k v) = wr μ b (sv C (191 + k) v) := wr_set (by simp [bkIx, h])
/-- where the field k of an envelope lies -/
def eF (k : Nat) : Nat := if k = 0 then 0 else if k = 1 then 5 else k - 1
theorem bkIx_e {e k : Nat} (he : e < 10) (hk : k < 6) : bkIx (9 + e) k = some (13 + 6 * e + eF k) := by
  unfold bkIx eF
  rw [if_neg (by omega), if_neg (by omega), if_neg (by omega), if_neg (by omega), if_neg (by omega), if_neg (by omega), if_pos (by omega), Nat.add_sub_cancel_left]
  by_cases h0 : k = 0
  · simp [h0]
  · by_cases h1 : k = 1
    · simp [h1]
    · simp [h0, h1, hk]
theorem wg_env {e k : Nat} (he : e < 10) (hk : k < 6) : wr μ b C (b + 9 + e) k = C (13 + 6 * e + eF k) := by rw [Nat.add_assoc]; exact wr_get (bkIx_e he hk)
theorem ws_env {e k : Nat} {v : Int64} (he : e < 10) (hk : k < 6) : stc (wr μ b C) (b + 9 + e) (sv (wr μ b C (b + 9 + e)) k v) = wr μ b (sv C (13 + 6 * e + eF k) v) := by rw [Nat.add_assoc]; exact wr_set (bkIx_e he hk)
theorem bkIx_f {e k : Nat} (he : e < 6) (hk : k < 6) : bkIx (19 + e) k = some (73 + 6 * e + k) := by
  unfold bkIx
  rw [if_neg (by omega), if_neg (by omega), if_neg (by omega), if_neg (by omega), if_neg (by omega), if_neg (by omega), if_neg (by omega), if_pos (by omega), Nat.add_sub_cancel_left, if_pos hk]
theorem wg_fnd {e k : Nat} (he : e < 6) (hk : k < 6) : wr μ b C (b + 19 + e) k = C (73 + 6 * e + k) := by rw [Nat.add_assoc]; exact wr_get (bkIx_f he hk)
theorem ws_fnd {e k : Nat} {v : Int64} (he : e < 6) (hk : k < 6) : stc (wr μ b C) (b + 19 + e) (sv (wr μ b C (b + 19 + e)) k v) = wr μ b (sv C (73 + 6 * e + k) v) := by rw [Nat.add_assoc]; exact wr_set (bkIx_f he hk)
theorem bkIx_i {e k : Nat} (he : e < 4) (hk : k < 5) : bkIx (25 + e) k = some (if k = 0 then 400 + e else 109 + 4 * e + (k - 1)) := by
  unfold bkIx
  rw [if_neg (by omega), if_neg (by omega), if_neg (by omega), if_neg (by omega), if_neg (by omega), if_neg (by omega), if_neg (by omega), if_neg (by omega), if_pos (by omega), Nat.add_sub_cancel_left]
  by_cases h0 : k = 0
  · simp [h0]
  · simp [h0, hk]
theorem wg_inc {e k : Nat} (he : e < 4) (hk : k < 4) : wr μ b C (b + 25 + e) (k + 1) = C (109 + 4 * e + k) := by rw [Nat.add_assoc]; exact (wr_get (bkIx_i he (by omega))).trans (by simp)
theorem ws_inc {e k : Nat} {v : Int64} (he : e < 4) (hk : k < 4) : stc (wr μ b C) (b + 25 + e) (sv (wr μ b C (b + 25 + e)) (k + 1) v) = wr μ b (sv C (109 + 4 * e + k) v) := by rw [Nat.add_assoc]; exact (wr_set (bkIx_i he (by omega))).trans (by simp)
theorem wg_inc0 {e : Nat} (he : e < 4) : wr μ b C (b + 25 + e) 0 = C (400 + e) := by rw [Nat.add_assoc]; exact (wr_get (bkIx_i he (by omega))).trans (by simp)
theorem ws_inc0 {e : Nat} {v : Int64} (he : e < 4) : stc (wr μ b C) (b + 25 + e) (sv (wr μ b C (b + 25 + e)) 0 v) = wr μ b (sv C (400 + e) v) := by rw [Nat.add_assoc]; exact (wr_set (bkIx_i he (by omega))).trans (by simp)
theorem bkIx_b {e k : Nat} (he : e < 12) (hk : k < 5) : bkIx (29 + e) k = some (125 + 5 * e + k) := by
  unfold bkIx
  rw [if_neg (by omega), if_neg (by omega), if_neg (by omega), if_neg (by omega), if_neg (by omega), if_neg (by omega), if_neg (by omega), if_neg (by omega), if_neg (by omega), if_pos (by omega), Nat.add_sub_cancel_left, if_pos hk]
theorem wg_bil {e k : Nat} (he : e < 12) (hk : k < 5) : wr μ b C (b + 29 + e) k = C (125 + 5 * e + k) := by rw [Nat.add_assoc]; exact wr_get (bkIx_b he hk)
theorem ws_bil {e k : Nat} {v : Int64} (he : e < 12) (hk : k < 5) : stc (wr μ b C) (b + 29 + e) (sv (wr μ b C (b + 29 + e)) k v) = wr μ b (sv C (125 + 5 * e + k) v) := by rw [Nat.add_assoc]; exact wr_set (bkIx_b he hk)
end ROW
