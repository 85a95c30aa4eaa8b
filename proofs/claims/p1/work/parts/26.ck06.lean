/-! THE CHECKS, by program: every row of every method. -/
theorem abCk276 : (List.range 28).all (fun j => ab_ck (abZ (fun _ _ => none) (fun _ => none)) abK (276 + j)) = true := by decide +kernel
theorem abCk304 : (List.range 19).all (fun j => ab_ck (abZ (fun _ _ => none) (fun _ => none)) abK (304 + j)) = true := by decide +kernel
