/-! ===== .. for each method ===== -/
theorem qM_ok (m : Nat) (hm : m < 318) : qMOk m = true := by
  have g : ∀ (a n : Nat), (∀ k, k < n → qMOk (a + k) = true) → a ≤ m → m < a + n → qMOk m = true := fun a n hq h1 h2 => by
    have := hq (m - a) (by omega)
    rwa [show a + (m - a) = m by omega] at this
  by_cases h0 : m < 40
  · exact g 0 40 qM_0 (by omega) (by omega)
  by_cases h40 : m < 80
  · exact g 40 40 qM_40 (by omega) (by omega)
  by_cases h80 : m < 120
  · exact g 80 40 qM_80 (by omega) (by omega)
  by_cases h120 : m < 160
  · exact g 120 40 qM_120 (by omega) (by omega)
  by_cases h160 : m < 180
  · exact g 160 20 qM_160 (by omega) (by omega)
  by_cases h180 : m < 200
  · exact g 180 20 qM_180 (by omega) (by omega)
  by_cases h200 : m < 220
  · exact g 200 20 qM_200 (by omega) (by omega)
  by_cases h220 : m < 240
  · exact g 220 20 qM_220 (by omega) (by omega)
  by_cases h240 : m < 260
  · exact g 240 20 qM_240 (by omega) (by omega)
  by_cases h260 : m < 280
  · exact g 260 20 qM_260 (by omega) (by omega)
  by_cases h280 : m < 300
  · exact g 280 20 qM_280 (by omega) (by omega)
  by_cases h300 : m < 318
  · exact g 300 18 qM_300 (by omega) (by omega)
  · omega
def qInG (w : Cond) : Bool := gX w && lw_tbl.any (fun v => decide (v = w))
theorem qInG_mem {w : Cond} (h : qInG w = true) : w ∈ GW := by
  unfold qInG at h
  rw [Bool.and_eq_true, List.any_eq_true] at h
  obtain ⟨h1, v, hv, e⟩ := h
  rw [decide_eq_true_eq] at e
  subst e
  exact List.mem_filter.mpr ⟨hv, h1⟩
theorem qAt_IAE : (vx_atS "EnvelopeBudget" 107 "java/lang/IllegalArgumentException" qExNames).all (fun w => qInG w && vx_ot w) = true := by decide +kernel
theorem qAt_IOB : (vx_atS "EnvelopeBudget" 194 "java/lang/IndexOutOfBoundsException" qExNames).all (fun w => qInG w && vx_ot w) = true := by decide +kernel
theorem qIn_IAE : qInG (.initialized "java/lang/IllegalArgumentException") = true := by decide +kernel
theorem qIn_IOB : qInG (.initialized "java/lang/IndexOutOfBoundsException") = true := by decide +kernel
