/-! THE CHECKS, by program: every row of every method. -/
theorem abCk498 : (List.range 20).all (fun j => ab_ck (abZ (fun _ _ => none) (fun _ => none)) abK (498 + j)) = true := by decide +kernel
theorem abCk518 : (List.range 21).all (fun j => ab_ck (abZ (fun _ _ => none) (fun _ => none)) abK (518 + j)) = true := by decide +kernel
