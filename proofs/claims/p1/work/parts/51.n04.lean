/-! CALL 407, by program. -/
theorem abq_g75 : abqR 75 78 abGoG abq_l 0 abqS = true := by decide +kernel
theorem abq_g78 : abqR 78 81 abGoG abq_l 0 abqS = true := by decide +kernel
theorem abq_g81 : abqR 81 84 abGoG abq_l 0 abqS = true := by decide +kernel
