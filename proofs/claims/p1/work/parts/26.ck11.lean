/-! THE CHECKS, by program: every row of every method. -/
theorem abCk340 : (List.range 1).all (fun j => ab_ck (abZ (fun _ _ => none) (fun _ => none)) abK (340 + j)) = true := by decide +kernel
theorem abCk341 : (List.range 13).all (fun j => ab_ck (abZ (fun _ _ => none) (fun _ => none)) abK (341 + j)) = true := by decide +kernel
