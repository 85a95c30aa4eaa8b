/-! FIRST CALLS, by program. -/
theorem abS_110 : (List.range 92).all (fun j => abGo [] [(1, .ofNat (110 + j), .ofNat (110 + j)), (8, .ofNat 0, .ofNat 0)]) = true := by decide +kernel
theorem abS_203 : (List.range 100).all (fun j => abGo [] [(1, .ofNat (203 + j), .ofNat (203 + j)), (8, .ofNat 0, .ofNat 0)]) = true := by decide +kernel
theorem abS_303 : (List.range 18).all (fun j => abGo [] [(1, .ofNat (303 + j), .ofNat (303 + j)), (8, .ofNat 0, .ofNat 0)]) = true := by decide +kernel
