/-! THE CHECKS, by program: every row of every method. -/
theorem abCk24 : (List.range 24).all (fun j => ab_ck (abZ (fun _ _ => none) (fun _ => none)) abK (24 * 24 + j)) = true := by decide +kernel
theorem abCk25 : (List.range 24).all (fun j => ab_ck (abZ (fun _ _ => none) (fun _ => none)) abK (25 * 24 + j)) = true := by decide +kernel
theorem abCk26 : (List.range 6).all (fun j => ab_ck (abZ (fun _ _ => none) (fun _ => none)) abK (26 * 24 + j)) = true := by decide +kernel
