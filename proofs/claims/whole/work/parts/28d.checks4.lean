/-! ===== The data are decided ===== -/
theorem qM_160 : ∀ m, m < 20 → qMOk (160 + m) = true := by decide +kernel
theorem qM_180 : ∀ m, m < 20 → qMOk (180 + m) = true := by decide +kernel
