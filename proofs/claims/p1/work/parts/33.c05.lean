/-! FIRST CALLS, by program. -/
theorem abS_405 : (List.range 1).all (fun j => abGo [] [(1, .ofNat (405 + j), .ofNat (405 + j)), (8, .ofNat 0, .ofNat 0)]) = true := by decide +kernel
theorem abS_406 : (List.range 1).all (fun j => abGo [] [(1, .ofNat (406 + j), .ofNat (406 + j)), (8, .ofNat 0, .ofNat 0)]) = true := by decide +kernel
theorem abS_409 : (List.range 80).all (fun j => abGo [] [(1, .ofNat (409 + j), .ofNat (409 + j)), (8, .ofNat 0, .ofNat 0)]) = true := by decide +kernel
