/-! THE CHECKS, by program: every row of every method. -/
theorem abCk382 : (List.range 19).all (fun j => ab_ck (abZ (fun _ _ => none) (fun _ => none)) abK (382 + j)) = true := by decide +kernel
theorem abCk401 : (List.range 21).all (fun j => ab_ck (abZ (fun _ _ => none) (fun _ => none)) abK (401 + j)) = true := by decide +kernel
