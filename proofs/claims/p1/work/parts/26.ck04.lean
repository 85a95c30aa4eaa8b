/-! THE CHECKS, by program: every row of every method. -/
theorem abCk183 : (List.range 21).all (fun j => ab_ck (abZ (fun _ _ => none) (fun _ => none)) abK (183 + j)) = true := by decide +kernel
theorem abCk204 : (List.range 22).all (fun j => ab_ck (abZ (fun _ _ => none) (fun _ => none)) abK (204 + j)) = true := by decide +kernel
