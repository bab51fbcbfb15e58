/-! ===== The data are decided ===== -/
theorem qM_280 : ∀ m, m < 20 → qMOk (280 + m) = true := by decide +kernel
theorem qM_300 : ∀ m, m < 18 → qMOk (300 + m) = true := by decide +kernel
