/-! FIRST CALLS, by program. -/
theorem abR_c611 : abGo [] [(1, .ofNat 611, .ofNat 611), (8, .ofNat 0, .ofNat 0)] = true := by decide +kernel
