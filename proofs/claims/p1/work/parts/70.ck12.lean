/-! THE CHECKS, by program: every row of every method. -/
theorem abCk462 : (List.range 20).all (fun j => ab_ck (abZ (fun _ _ => none) (fun _ => none)) abK (462 + j)) = true := by decide +kernel
theorem abCk482 : (List.range 16).all (fun j => ab_ck (abZ (fun _ _ => none) (fun _ => none)) abK (482 + j)) = true := by decide +kernel
