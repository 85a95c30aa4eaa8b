/-! CALL 407, by program. -/
theorem abq_g0 : abqR 0 20 abGoG abq_l 0 abqS = true := by decide +kernel
theorem abq_g20 : abqR 20 30 abGoG abq_l 0 abqS = true := by decide +kernel
theorem abq_g30 : abqR 30 37 abGoG abq_l 0 abqS = true := by decide +kernel
