/-! THE CHECKS, by program: every row of every method. -/
theorem abCk483 : (List.range 4).all (fun j => ab_ck (abZ (fun _ _ => none) (fun _ => none)) abK (483 + j)) = true := by decide +kernel
theorem abCk487 : (List.range 13).all (fun j => ab_ck (abZ (fun _ _ => none) (fun _ => none)) abK (487 + j)) = true := by decide +kernel
