/-! THE CHECKS, by program: every row of every method. -/
theorem abCk140 : (List.range 21).all (fun j => ab_ck (abZ (fun _ _ => none) (fun _ => none)) abK (140 + j)) = true := by decide +kernel
theorem abCk161 : (List.range 22).all (fun j => ab_ck (abZ (fun _ _ => none) (fun _ => none)) abK (161 + j)) = true := by decide +kernel
