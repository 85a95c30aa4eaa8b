/-! CALL 407, by program. -/
theorem abq_g65 : abqR 65 69 abGoG abq_l 0 abqS = true := by decide +kernel
theorem abq_g69 : abqR 69 72 abGoG abq_l 0 abqS = true := by decide +kernel
theorem abq_g72 : abqR 72 75 abGoG abq_l 0 abqS = true := by decide +kernel
