/-! ===== Relation of the rows, 5: what is next, in order ===== -/
def KW (w : Nat → Int64) (x : Nat) : Int := (w x).toInt * 1000 + x
theorem posL_spec {w : Nat → Int64} {v : Int64} {l : List Nat} (hs : l.Pairwise (fun x y => w x ≤ w y)) : ∀ k, k ≤ l.length → (∀ j, j < posL w v l k → w (l.getD j 0) ≤ v) ∧ (∀ j, posL w v l k ≤ j → j < k → v < w (l.getD j 0))
  | 0, _ => ⟨fun j h => absurd h (Nat.not_lt_zero _), fun j _ h => absurd h (Nat.not_lt_zero _)⟩
  | k + 1, hk => by
    obtain ⟨i1, i2⟩ := posL_spec (v := v) hs k (by omega)
    rw [posL]
    by_cases h : v < w (l.getD k 0)
    · rw [if_pos h]
      refine ⟨i1, fun j h1 h2 => ?_⟩
      by_cases hj : j = k
      · rw [hj]; exact h
      · exact i2 j h1 (by omega)
    · rw [if_neg h]
      refine ⟨fun j hj => ?_, fun j h1 h2 => by omega⟩
      have h' := Int64.not_lt.mp h
      by_cases hjk : j = k
      · rw [hjk]; exact h'
      · have hp := List.pairwise_iff_getElem.mp hs j k (by omega) (by omega) (by omega)
        rw [List.getD_eq_getElem?_getD, List.getElem?_eq_getElem (by omega), Option.getD_some] at h' ⊢
        exact Int64.le_trans hp h'
def Srt (w : Nat → Int64) (l : List Nat) : Prop := l.Pairwise (fun x y => KW w x < KW w y)
theorem Srt.ins {w : Nat → Int64} {f : Nat} {l : List Nat} (h : Srt w l) (hl : ∀ g, g ∈ l → g < f) (hf : f < 1000) : Srt w (insW w f l) := by
  have hle : l.Pairwise (fun x y => w x ≤ w y) := by
    refine List.Pairwise.imp_of_mem ?_ h
    intro x y hx hy hxy
    unfold KW at hxy
    have := hl x hx
    have := hl y hy
    rw [Int64.le_iff_toInt_le]
    omega
  obtain ⟨i1, i2⟩ := posL_spec (v := w f) hle l.length (Nat.le_refl _)
  unfold insW
  generalize posL w (w f) l l.length = q at i1 i2
  have ht : ∀ x, x ∈ l.take q → KW w x < KW w f := fun x hx => by
    obtain ⟨j, hj, rfl⟩ := List.mem_take_iff_getElem.mp hx
    have hjl : j < l.length := by omega
    have := i1 j (by omega)
    rw [List.getD_eq_getElem?_getD, List.getElem?_eq_getElem hjl, Option.getD_some, Int64.le_iff_toInt_le] at this
    have := hl _ (List.getElem_mem hjl)
    unfold KW
    omega
  have hd : ∀ x, x ∈ l.drop q → KW w f < KW w x := fun x hx => by
    obtain ⟨j, hj, rfl⟩ := List.mem_drop_iff_getElem.mp hx
    have := i2 (q + j) (by omega) (by omega)
    rw [List.getD_eq_getElem?_getD, List.getElem?_eq_getElem (by omega), Option.getD_some, Int64.lt_iff_toInt_lt] at this
    have := hl _ (List.getElem_mem (show q + j < l.length by omega))
    unfold KW
    omega
  have hh : (l.take q ++ l.drop q).Pairwise (fun x y => KW w x < KW w y) := by rw [List.take_append_drop]; exact h
  obtain ⟨p1, p2, p3⟩ := List.pairwise_append.mp hh
  refine List.pairwise_append.mpr ⟨p1, List.pairwise_cons.mpr ⟨hd, p2⟩, fun x hx y hy => ?_⟩
  rcases List.mem_cons.mp hy with rfl | hy
  · exact ht x hx
  · exact p3 x hx y hy
section REL5
variable {nx key : Nat → Int64} {v : Int64}
theorem keyL_a : ∀ c, keyL nx key v c = NOK ∨ ∃ i, i < c ∧ ¬ (nx i).toInt32 = -1 ∧ v < key i ∧ keyL nx key v c = key i
  | 0 => Or.inl rfl
  | c + 1 => by
    rw [keyL]
    by_cases h : (nx c).toInt32 = -1 ∨ key c ≤ v ∨ keyL nx key v c ≤ key c
    · rw [if_pos h]
      rcases keyL_a c with q | ⟨i, h1, h2⟩
      · exact Or.inl q
      · exact Or.inr ⟨i, by omega, h2⟩
    · rw [if_neg h]
      exact Or.inr ⟨c, by omega, fun q => h (Or.inl q), Int64.not_le.mp fun q => h (Or.inr (Or.inl q)), rfl⟩
theorem keyL_b : ∀ c i, i < c → ¬ (nx i).toInt32 = -1 → v < key i → keyL nx key v c ≤ key i
  | 0, i, h, _, _ => absurd h (Nat.not_lt_zero _)
  | c + 1, i, h, h1, h2 => by
    rw [keyL]
    by_cases hq : (nx c).toInt32 = -1 ∨ key c ≤ v ∨ keyL nx key v c ≤ key c
    · rw [if_pos hq]
      by_cases hi : i = c
      · rw [hi] at h1 h2 ⊢
        rcases hq with q | q | q
        · exact absurd q h1
        · exact absurd h2 (Int64.not_lt.mpr q)
        · exact q
      · exact keyL_b c i (by omega) h1 h2
    · rw [if_neg hq]
      by_cases hi : i = c
      · rw [hi]; exact Int64.le_refl _
      · have := keyL_b c i (by omega) h1 h2
        have h3 : ¬ keyL nx key v c ≤ key c := fun q => hq (Or.inr (Or.inr q))
        exact Int64.le_trans (Int64.le_of_lt (Int64.not_le.mp h3)) this
theorem keyL_no {c : Nat} (h : ∀ i, i < c → ¬ (nx i).toInt32 = -1 → key i ≤ v) : keyL nx key v c = NOK := by
  rcases keyL_a (nx := nx) (key := key) (v := v) c with q | ⟨i, h1, h2, h3, _⟩
  · exact q
  · exact absurd h3 (Int64.not_lt.mpr (h i h1 h2))
theorem keyL_min {c x : Nat} (hx : x < c) (hn : ¬ (nx x).toInt32 = -1) (hv : v < key x) (hk : key x < NOK) (h : ∀ i, i < c → ¬ (nx i).toInt32 = -1 → v < key i → key x ≤ key i) : keyL nx key v c = key x := by
  have hb := keyL_b c x hx hn hv
  rcases keyL_a (nx := nx) (key := key) (v := v) c with q | ⟨i, h1, h2, h3, h4⟩
  · rw [q] at hb
    exact absurd hk (Int64.not_lt.mpr hb)
  · rw [h4] at hb ⊢
    exact Int64.le_antisymm hb (h i h1 h2 h3)
end REL5
