/-! THE CHECKS, by program: every row of every method. -/
theorem abCk622 : (List.range 8).all (fun j => ab_ck (abZ (fun _ _ => none) (fun _ => none)) abK (622 + j)) = true := by decide +kernel
