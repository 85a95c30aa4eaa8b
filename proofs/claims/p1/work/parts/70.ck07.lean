/-! THE CHECKS, by program: every row of every method. -/
theorem abCk323 : (List.range 6).all (fun j => ab_ck (abZ (fun _ _ => none) (fun _ => none)) abK (323 + j)) = true := by decide +kernel
theorem abCk329 : (List.range 5).all (fun j => ab_ck (abZ (fun _ _ => none) (fun _ => none)) abK (329 + j)) = true := by decide +kernel
