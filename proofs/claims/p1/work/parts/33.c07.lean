/-! FIRST CALLS, by program. -/
theorem abS_711 : (List.range 92).all (fun j => abGo [] [(1, .ofNat (711 + j), .ofNat (711 + j)), (8, .ofNat 0, .ofNat 0)]) = true := by decide +kernel
theorem abS_804 : (List.range 4).all (fun j => abGo [] [(1, .ofNat (804 + j), .ofNat (804 + j)), (8, .ofNat 0, .ofNat 0)]) = true := by decide +kernel
theorem abS_809 : (List.range 8).all (fun j => abGo [] [(1, .ofNat (809 + j), .ofNat (809 + j)), (8, .ofNat 0, .ofNat 0)]) = true := by decide +kernel
theorem abS_818 : (List.range 97).all (fun j => abGo [] [(1, .ofNat (818 + j), .ofNat (818 + j)), (8, .ofNat 0, .ofNat 0)]) = true := by decide +kernel
theorem abS_915 : (List.range 85).all (fun j => abGo [] [(1, .ofNat (915 + j), .ofNat (915 + j)), (8, .ofNat 0, .ofNat 0)]) = true := by decide +kernel
