/-! THE CHECKS, by program: every row of every method. -/
theorem abCk15 : (List.range 24).all (fun j => ab_ck (abZ (fun _ _ => none) (fun _ => none)) abK (15 * 24 + j)) = true := by decide +kernel
theorem abCk16 : (List.range 24).all (fun j => ab_ck (abZ (fun _ _ => none) (fun _ => none)) abK (16 * 24 + j)) = true := by decide +kernel
theorem abCk17 : (List.range 24).all (fun j => ab_ck (abZ (fun _ _ => none) (fun _ => none)) abK (17 * 24 + j)) = true := by decide +kernel
