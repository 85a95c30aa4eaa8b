/-! THE CHECKS, by program: every row of every method. -/
theorem abCk45 : (List.range 22).all (fun j => ab_ck (abZ (fun _ _ => none) (fun _ => none)) abK (45 + j)) = true := by decide +kernel
theorem abCk67 : (List.range 24).all (fun j => ab_ck (abZ (fun _ _ => none) (fun _ => none)) abK (67 + j)) = true := by decide +kernel
