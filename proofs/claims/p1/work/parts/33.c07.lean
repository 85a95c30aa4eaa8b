/-! FIRST CALLS, by program. -/
theorem abS_375 : (List.range 30).all (fun j => abGo [] [(1, .ofNat (375 + j), .ofNat (375 + j)), (8, .ofNat 0, .ofNat 0)]) = true := by decide +kernel
theorem abS_405 : (List.range 1).all (fun j => abGo [] [(1, .ofNat (405 + j), .ofNat (405 + j)), (8, .ofNat 0, .ofNat 0)]) = true := by decide +kernel
theorem abS_406 : (List.range 1).all (fun j => abGo [] [(1, .ofNat (406 + j), .ofNat (406 + j)), (8, .ofNat 0, .ofNat 0)]) = true := by decide +kernel
