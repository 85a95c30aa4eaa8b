/-! CALL 407, by program. -/
theorem abq_g93 : abqR 93 95 abGoG abq_l 0 abqS = true := by decide +kernel
theorem abq_g95 : abqR 95 97 abGoG abq_l 0 abqS = true := by decide +kernel
theorem abq_g97 : abqR 97 99 abGoG abq_l 0 abqS = true := by decide +kernel
