/-! CALL 407, by program. -/
theorem abq_g84 : abqR 84 87 abGoG abq_l 0 abqS = true := by decide +kernel
theorem abq_g87 : abqR 87 90 abGoG abq_l 0 abqS = true := by decide +kernel
theorem abq_g90 : abqR 90 93 abGoG abq_l 0 abqS = true := by decide +kernel
