/-! every row is right -/
theorem am_hr_0 : ∀ i, i < 12 → am_hr (0 + i) = true := by decide +kernel
theorem am_hr_12 : ∀ i, i < 12 → am_hr (12 + i) = true := by decide +kernel
theorem am_hr_24 : ∀ i, i < 12 → am_hr (24 + i) = true := by decide +kernel
theorem am_hr_36 : ∀ i, i < 12 → am_hr (36 + i) = true := by decide +kernel
theorem am_hr_48 : ∀ i, i < 12 → am_hr (48 + i) = true := by decide +kernel
theorem am_hr_60 : ∀ i, i < 12 → am_hr (60 + i) = true := by decide +kernel
theorem am_hr_72 : ∀ i, i < 12 → am_hr (72 + i) = true := by decide +kernel
theorem am_hr_84 : ∀ i, i < 12 → am_hr (84 + i) = true := by decide +kernel
theorem am_hr_96 : ∀ i, i < 12 → am_hr (96 + i) = true := by decide +kernel
theorem am_hr_108 : ∀ i, i < 12 → am_hr (108 + i) = true := by decide +kernel
theorem am_hr_120 : ∀ i, i < 12 → am_hr (120 + i) = true := by decide +kernel
theorem am_hr_132 : ∀ i, i < 12 → am_hr (132 + i) = true := by decide +kernel
theorem am_hr_144 : ∀ i, i < 12 → am_hr (144 + i) = true := by decide +kernel
