/-! FIRST CALLS, by program. -/
theorem abS_321 : (List.range 54).all (fun j => abGo [] [(1, .ofNat (321 + j), .ofNat (321 + j)), (8, .ofNat 0, .ofNat 0)]) = true := by decide +kernel
theorem abS_375 : (List.range 30).all (fun j => abGo [] [(1, .ofNat (375 + j), .ofNat (375 + j)), (8, .ofNat 0, .ofNat 0)]) = true := by decide +kernel
