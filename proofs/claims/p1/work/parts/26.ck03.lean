/-! THE CHECKS, by program: every row of every method. -/
theorem abCk9 : (List.range 24).all (fun j => ab_ck (abZ (fun _ _ => none) (fun _ => none)) abK (9 * 24 + j)) = true := by decide +kernel
theorem abCk10 : (List.range 24).all (fun j => ab_ck (abZ (fun _ _ => none) (fun _ => none)) abK (10 * 24 + j)) = true := by decide +kernel
theorem abCk11 : (List.range 24).all (fun j => ab_ck (abZ (fun _ _ => none) (fun _ => none)) abK (11 * 24 + j)) = true := by decide +kernel
