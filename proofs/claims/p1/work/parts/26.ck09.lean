/-! THE CHECKS, by program: every row of every method. -/
theorem abCk331 : (List.range 2).all (fun j => ab_ck (abZ (fun _ _ => none) (fun _ => none)) abK (331 + j)) = true := by decide +kernel
theorem abCk333 : (List.range 2).all (fun j => ab_ck (abZ (fun _ _ => none) (fun _ => none)) abK (333 + j)) = true := by decide +kernel
