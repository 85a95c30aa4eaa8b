/-! THE CHECKS, by program: every row of every method. -/
theorem abCk539 : (List.range 16).all (fun j => ab_ck (abZ (fun _ _ => none) (fun _ => none)) abK (539 + j)) = true := by decide +kernel
theorem abCk555 : (List.range 23).all (fun j => ab_ck (abZ (fun _ _ => none) (fun _ => none)) abK (555 + j)) = true := by decide +kernel
