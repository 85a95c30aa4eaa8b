/-! CALL 407, by program. -/
theorem abq_g37 : abqR 37 43 abGoG abq_l 0 abqS = true := by decide +kernel
theorem abq_g43 : abqR 43 48 abGoG abq_l 0 abqS = true := by decide +kernel
theorem abq_g48 : abqR 48 53 abGoG abq_l 0 abqS = true := by decide +kernel
