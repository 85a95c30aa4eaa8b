/-! THE CHECKS, by program: every row of every method. -/
theorem abCk367 : (List.range 1).all (fun j => ab_ck (abZ (fun _ _ => none) (fun _ => none)) abK (367 + j)) = true := by decide +kernel
theorem abCk368 : (List.range 13).all (fun j => ab_ck (abZ (fun _ _ => none) (fun _ => none)) abK (368 + j)) = true := by decide +kernel
