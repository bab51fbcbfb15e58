/-! ===== .. for each method ===== -/
theorem qB_0 : ∀ m, m < 20 → qBlocksOk (0 + m) = true := by decide +kernel
theorem qB_20 : ∀ m, m < 20 → qBlocksOk (20 + m) = true := by decide +kernel
theorem qB_40 : ∀ m, m < 20 → qBlocksOk (40 + m) = true := by decide +kernel
theorem qB_60 : ∀ m, m < 20 → qBlocksOk (60 + m) = true := by decide +kernel
theorem qB_80 : ∀ m, m < 20 → qBlocksOk (80 + m) = true := by decide +kernel
theorem qB_100 : ∀ m, m < 20 → qBlocksOk (100 + m) = true := by decide +kernel
theorem qB_120 : ∀ m, m < 20 → qBlocksOk (120 + m) = true := by decide +kernel
theorem qB_140 : ∀ m, m < 20 → qBlocksOk (140 + m) = true := by decide +kernel
theorem qB_160 : ∀ m, m < 20 → qBlocksOk (160 + m) = true := by decide +kernel
theorem qB_180 : ∀ m, m < 20 → qBlocksOk (180 + m) = true := by decide +kernel
theorem qB_200 : ∀ m, m < 20 → qBlocksOk (200 + m) = true := by decide +kernel
theorem qB_220 : ∀ m, m < 20 → qBlocksOk (220 + m) = true := by decide +kernel
theorem qB_240 : ∀ m, m < 20 → qBlocksOk (240 + m) = true := by decide +kernel
theorem qB_260 : ∀ m, m < 20 → qBlocksOk (260 + m) = true := by decide +kernel
theorem qB_280 : ∀ m, m < 20 → qBlocksOk (280 + m) = true := by decide +kernel
theorem qB_300 : ∀ m, m < 18 → qBlocksOk (300 + m) = true := by decide +kernel
theorem qB_318 : qBlocksOk 318 = true := by decide +kernel
theorem qM_ok : ∀ m, m < 318 → qMOk m = true := by decide +kernel
