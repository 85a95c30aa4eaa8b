/-! THE CHECKS, by program: every row of every method. -/
theorem abCk404 : (List.range 10).all (fun j => ab_ck (abZ (fun _ _ => none) (fun _ => none)) abK (404 + j)) = true := by decide +kernel
theorem abCk414 : (List.range 12).all (fun j => ab_ck (abZ (fun _ _ => none) (fun _ => none)) abK (414 + j)) = true := by decide +kernel
