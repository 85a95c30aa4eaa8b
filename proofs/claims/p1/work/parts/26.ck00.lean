/-! THE CHECKS, by program: every row of every method. -/
theorem abCk0 : (List.range 24).all (fun j => ab_ck (abZ (fun _ _ => none) (fun _ => none)) abK (0 * 24 + j)) = true := by decide +kernel
theorem abCk1 : (List.range 24).all (fun j => ab_ck (abZ (fun _ _ => none) (fun _ => none)) abK (1 * 24 + j)) = true := by decide +kernel
theorem abCk2 : (List.range 24).all (fun j => ab_ck (abZ (fun _ _ => none) (fun _ => none)) abK (2 * 24 + j)) = true := by decide +kernel
