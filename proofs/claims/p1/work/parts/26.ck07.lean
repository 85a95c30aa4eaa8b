/-! THE CHECKS, by program: every row of every method. -/
theorem abCk21 : (List.range 24).all (fun j => ab_ck (abZ (fun _ _ => none) (fun _ => none)) abK (21 * 24 + j)) = true := by decide +kernel
theorem abCk22 : (List.range 24).all (fun j => ab_ck (abZ (fun _ _ => none) (fun _ => none)) abK (22 * 24 + j)) = true := by decide +kernel
theorem abCk23 : (List.range 24).all (fun j => ab_ck (abZ (fun _ _ => none) (fun _ => none)) abK (23 * 24 + j)) = true := by decide +kernel
