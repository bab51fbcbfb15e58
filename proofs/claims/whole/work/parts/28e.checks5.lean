/-! ===== The data are decided ===== -/
theorem qM_200 : ∀ m, m < 20 → qMOk (200 + m) = true := by decide +kernel
theorem qM_220 : ∀ m, m < 20 → qMOk (220 + m) = true := by decide +kernel
