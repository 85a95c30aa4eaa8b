/-! THE CHECKS, by program: every row of every method. -/
theorem abCk448 : (List.range 7).all (fun j => ab_ck (abZ (fun _ _ => none) (fun _ => none)) abK (448 + j)) = true := by decide +kernel
theorem abCk455 : (List.range 11).all (fun j => ab_ck (abZ (fun _ _ => none) (fun _ => none)) abK (455 + j)) = true := by decide +kernel
