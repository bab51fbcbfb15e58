/-! ===== The data are decided, 3 ===== -/
theorem qM_0 : ∀ m, m < 40 → qMOk (0 + m) = true := by decide +kernel
theorem qM_40 : ∀ m, m < 40 → qMOk (40 + m) = true := by decide +kernel
theorem qM_80 : ∀ m, m < 40 → qMOk (80 + m) = true := by decide +kernel
theorem qM_120 : ∀ m, m < 40 → qMOk (120 + m) = true := by decide +kernel
theorem qM_160 : ∀ m, m < 40 → qMOk (160 + m) = true := by decide +kernel
theorem qM_200 : ∀ m, m < 40 → qMOk (200 + m) = true := by decide +kernel
theorem qM_240 : ∀ m, m < 40 → qMOk (240 + m) = true := by decide +kernel
theorem qM_280 : ∀ m, m < 38 → qMOk (280 + m) = true := by decide +kernel
