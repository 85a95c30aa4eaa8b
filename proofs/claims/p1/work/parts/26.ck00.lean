/-! THE CHECKS, by program: every row of every method. -/
theorem abCk0 : (List.range 16).all (fun j => ab_ck (abZ (fun _ _ => none) (fun _ => none)) abK (0 + j)) = true := by decide +kernel
theorem abCk16 : (List.range 29).all (fun j => ab_ck (abZ (fun _ _ => none) (fun _ => none)) abK (16 + j)) = true := by decide +kernel
