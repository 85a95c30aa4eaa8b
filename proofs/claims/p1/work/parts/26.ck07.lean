/-! THE CHECKS, by program: every row of every method. -/
theorem abCk323 : (List.range 3).all (fun j => ab_ck (abZ (fun _ _ => none) (fun _ => none)) abK (323 + j)) = true := by decide +kernel
theorem abCk326 : (List.range 2).all (fun j => ab_ck (abZ (fun _ _ => none) (fun _ => none)) abK (326 + j)) = true := by decide +kernel
