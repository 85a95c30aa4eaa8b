/-! CALL 407, by program. -/
theorem abq_g99 : abqR 99 101 abGoG abq_l 0 abqS = true := by decide +kernel
