/-! THE CHECKS, by program: every row of every method. -/
theorem abCk500 : (List.range 13).all (fun j => ab_ck (abZ (fun _ _ => none) (fun _ => none)) abK (500 + j)) = true := by decide +kernel
theorem abCk513 : (List.range 9).all (fun j => ab_ck (abZ (fun _ _ => none) (fun _ => none)) abK (513 + j)) = true := by decide +kernel
