/-! THE CHECKS, by program: every row of every method. -/
theorem abCk3 : (List.range 24).all (fun j => ab_ck (abZ (fun _ _ => none) (fun _ => none)) abK (3 * 24 + j)) = true := by decide +kernel
theorem abCk4 : (List.range 24).all (fun j => ab_ck (abZ (fun _ _ => none) (fun _ => none)) abK (4 * 24 + j)) = true := by decide +kernel
theorem abCk5 : (List.range 24).all (fun j => ab_ck (abZ (fun _ _ => none) (fun _ => none)) abK (5 * 24 + j)) = true := by decide +kernel
