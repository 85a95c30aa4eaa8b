/-! FIRST CALLS, by program. -/
theorem abS_489 : (List.range 15).all (fun j => abGo [] [(1, .ofNat (489 + j), .ofNat (489 + j)), (8, .ofNat 0, .ofNat 0)]) = true := by decide +kernel
theorem abS_506 : (List.range 94).all (fun j => abGo [] [(1, .ofNat (506 + j), .ofNat (506 + j)), (8, .ofNat 0, .ofNat 0)]) = true := by decide +kernel
theorem abS_603 : (List.range 6).all (fun j => abGo [] [(1, .ofNat (603 + j), .ofNat (603 + j)), (8, .ofNat 0, .ofNat 0)]) = true := by decide +kernel
theorem abS_612 : (List.range 99).all (fun j => abGo [] [(1, .ofNat (612 + j), .ofNat (612 + j)), (8, .ofNat 0, .ofNat 0)]) = true := by decide +kernel
