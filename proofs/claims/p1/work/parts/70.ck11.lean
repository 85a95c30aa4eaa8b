/-! THE CHECKS, by program: every row of every method. -/
theorem abCk422 : (List.range 22).all (fun j => ab_ck (abZ (fun _ _ => none) (fun _ => none)) abK (422 + j)) = true := by decide +kernel
theorem abCk444 : (List.range 18).all (fun j => ab_ck (abZ (fun _ _ => none) (fun _ => none)) abK (444 + j)) = true := by decide +kernel
