/-! FIRST CALLS, by program. -/
theorem abR_c407 : abGo [] [(1, .ofNat 407, .ofNat 407), (8, .ofNat 0, .ofNat 0)] = true := by decide +kernel
