/-! ===== The data are decided, 3 ===== -/
theorem qM_0 : ∀ m, m < 40 → qMOk (0 + m) = true := by decide +kernel
theorem qM_40 : ∀ m, m < 40 → qMOk (40 + m) = true := by decide +kernel
theorem qM_80 : ∀ m, m < 40 → qMOk (80 + m) = true := by decide +kernel
theorem qM_120 : ∀ m, m < 40 → qMOk (120 + m) = true := by decide +kernel
