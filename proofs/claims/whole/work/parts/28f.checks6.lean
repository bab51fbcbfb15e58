/-! ===== The data are decided ===== -/
theorem qM_240 : ∀ m, m < 20 → qMOk (240 + m) = true := by decide +kernel
theorem qM_260 : ∀ m, m < 20 → qMOk (260 + m) = true := by decide +kernel
