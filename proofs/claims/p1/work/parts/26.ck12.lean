/-! THE CHECKS, by program: every row of every method. -/
theorem abCk354 : (List.range 10).all (fun j => ab_ck (abZ (fun _ _ => none) (fun _ => none)) abK (354 + j)) = true := by decide +kernel
theorem abCk364 : (List.range 3).all (fun j => ab_ck (abZ (fun _ _ => none) (fun _ => none)) abK (364 + j)) = true := by decide +kernel
