/-! ===== The data are decided, 1 ===== -/
theorem qB_0 : ∀ m, m < 20 → qBlocksOk (0 + m) = true := by decide +kernel
theorem qB_20 : ∀ m, m < 20 → qBlocksOk (20 + m) = true := by decide +kernel
theorem qB_40 : ∀ m, m < 20 → qBlocksOk (40 + m) = true := by decide +kernel
theorem qB_60 : ∀ m, m < 20 → qBlocksOk (60 + m) = true := by decide +kernel
theorem qB_80 : ∀ m, m < 20 → qBlocksOk (80 + m) = true := by decide +kernel
theorem qB_100 : ∀ m, m < 20 → qBlocksOk (100 + m) = true := by decide +kernel
theorem qB_120 : ∀ m, m < 20 → qBlocksOk (120 + m) = true := by decide +kernel
theorem qB_140 : ∀ m, m < 20 → qBlocksOk (140 + m) = true := by decide +kernel
