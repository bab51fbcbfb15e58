/-! ===== The data are decided, 2 ===== -/
theorem qB_160 : ∀ m, m < 20 → qBlocksOk (160 + m) = true := by decide +kernel
theorem qB_180 : ∀ m, m < 20 → qBlocksOk (180 + m) = true := by decide +kernel
theorem qB_200 : ∀ m, m < 20 → qBlocksOk (200 + m) = true := by decide +kernel
theorem qB_220 : ∀ m, m < 20 → qBlocksOk (220 + m) = true := by decide +kernel
theorem qB_240 : ∀ m, m < 20 → qBlocksOk (240 + m) = true := by decide +kernel
theorem qB_260 : ∀ m, m < 20 → qBlocksOk (260 + m) = true := by decide +kernel
theorem qB_280 : ∀ m, m < 20 → qBlocksOk (280 + m) = true := by decide +kernel
theorem qB_300 : ∀ m, m < 18 → qBlocksOk (300 + m) = true := by decide +kernel
