/-! THE CHECKS, by program: every row of every method. -/
theorem abCk6 : (List.range 24).all (fun j => ab_ck (abZ (fun _ _ => none) (fun _ => none)) abK (6 * 24 + j)) = true := by decide +kernel
theorem abCk7 : (List.range 24).all (fun j => ab_ck (abZ (fun _ _ => none) (fun _ => none)) abK (7 * 24 + j)) = true := by decide +kernel
theorem abCk8 : (List.range 24).all (fun j => ab_ck (abZ (fun _ _ => none) (fun _ => none)) abK (8 * 24 + j)) = true := by decide +kernel
