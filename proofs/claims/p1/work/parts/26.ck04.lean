/-! THE CHECKS, by program: every row of every method. -/
theorem abCk12 : (List.range 24).all (fun j => ab_ck (abZ (fun _ _ => none) (fun _ => none)) abK (12 * 24 + j)) = true := by decide +kernel
theorem abCk13 : (List.range 24).all (fun j => ab_ck (abZ (fun _ _ => none) (fun _ => none)) abK (13 * 24 + j)) = true := by decide +kernel
theorem abCk14 : (List.range 24).all (fun j => ab_ck (abZ (fun _ _ => none) (fun _ => none)) abK (14 * 24 + j)) = true := by decide +kernel
