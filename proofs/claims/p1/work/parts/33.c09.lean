/-! FIRST CALLS, by program. -/
theorem abS_612 : (List.range 99).all (fun j => abGo [] [(1, .ofNat (612 + j), .ofNat (612 + j)), (8, .ofNat 0, .ofNat 0)]) = true := by decide +kernel
theorem abS_711 : (List.range 92).all (fun j => abGo [] [(1, .ofNat (711 + j), .ofNat (711 + j)), (8, .ofNat 0, .ofNat 0)]) = true := by decide +kernel
theorem abS_804 : (List.range 4).all (fun j => abGo [] [(1, .ofNat (804 + j), .ofNat (804 + j)), (8, .ofNat 0, .ofNat 0)]) = true := by decide +kernel
theorem abS_809 : (List.range 8).all (fun j => abGo [] [(1, .ofNat (809 + j), .ofNat (809 + j)), (8, .ofNat 0, .ofNat 0)]) = true := by decide +kernel
