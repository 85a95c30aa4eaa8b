/-! THE CHECKS, by program: every row of every method. -/
theorem abCk547 : (List.range 7).all (fun j => ab_ck (abZ (fun _ _ => none) (fun _ => none)) abK (547 + j)) = true := by decide +kernel
theorem abCk554 : (List.range 9).all (fun j => ab_ck (abZ (fun _ _ => none) (fun _ => none)) abK (554 + j)) = true := by decide +kernel
