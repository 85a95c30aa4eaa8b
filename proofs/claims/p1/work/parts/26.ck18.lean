/-! THE CHECKS, by program: every row of every method. -/
theorem abCk466 : (List.range 13).all (fun j => ab_ck (abZ (fun _ _ => none) (fun _ => none)) abK (466 + j)) = true := by decide +kernel
theorem abCk479 : (List.range 4).all (fun j => ab_ck (abZ (fun _ _ => none) (fun _ => none)) abK (479 + j)) = true := by decide +kernel
