/-! THE CHECKS, by program: every row of every method. -/
theorem abCk426 : (List.range 12).all (fun j => ab_ck (abZ (fun _ _ => none) (fun _ => none)) abK (426 + j)) = true := by decide +kernel
theorem abCk438 : (List.range 10).all (fun j => ab_ck (abZ (fun _ _ => none) (fun _ => none)) abK (438 + j)) = true := by decide +kernel
