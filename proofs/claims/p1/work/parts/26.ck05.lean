/-! THE CHECKS, by program: every row of every method. -/
theorem abCk226 : (List.range 21).all (fun j => ab_ck (abZ (fun _ _ => none) (fun _ => none)) abK (226 + j)) = true := by decide +kernel
theorem abCk247 : (List.range 29).all (fun j => ab_ck (abZ (fun _ _ => none) (fun _ => none)) abK (247 + j)) = true := by decide +kernel
