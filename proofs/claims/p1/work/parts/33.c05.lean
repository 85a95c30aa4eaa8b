/-! FIRST CALLS, by program. -/
theorem abS_0 : (List.range 5).all (fun j => abGo [] [(1, .ofNat (0 + j), .ofNat (0 + j)), (8, .ofNat 0, .ofNat 0)]) = true := by decide +kernel
theorem abS_6 : (List.range 2).all (fun j => abGo [] [(1, .ofNat (6 + j), .ofNat (6 + j)), (8, .ofNat 0, .ofNat 0)]) = true := by decide +kernel
theorem abS_9 : (List.range 3).all (fun j => abGo [] [(1, .ofNat (9 + j), .ofNat (9 + j)), (8, .ofNat 0, .ofNat 0)]) = true := by decide +kernel
theorem abS_13 : (List.range 87).all (fun j => abGo [] [(1, .ofNat (13 + j), .ofNat (13 + j)), (8, .ofNat 0, .ofNat 0)]) = true := by decide +kernel
theorem abS_101 : (List.range 7).all (fun j => abGo [] [(1, .ofNat (101 + j), .ofNat (101 + j)), (8, .ofNat 0, .ofNat 0)]) = true := by decide +kernel
theorem abS_110 : (List.range 92).all (fun j => abGo [] [(1, .ofNat (110 + j), .ofNat (110 + j)), (8, .ofNat 0, .ofNat 0)]) = true := by decide +kernel
