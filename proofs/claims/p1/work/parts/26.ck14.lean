/-! THE CHECKS, by program: every row of every method. -/
theorem abCk381 : (List.range 8).all (fun j => ab_ck (abZ (fun _ _ => none) (fun _ => none)) abK (381 + j)) = true := by decide +kernel
theorem abCk389 : (List.range 15).all (fun j => ab_ck (abZ (fun _ _ => none) (fun _ => none)) abK (389 + j)) = true := by decide +kernel
