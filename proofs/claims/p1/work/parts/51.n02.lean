/-! CALL 407, by program. -/
theorem abq_g53 : abqR 53 57 abGoG abq_l 0 abqS = true := by decide +kernel
theorem abq_g57 : abqR 57 61 abGoG abq_l 0 abqS = true := by decide +kernel
theorem abq_g61 : abqR 61 65 abGoG abq_l 0 abqS = true := by decide +kernel
