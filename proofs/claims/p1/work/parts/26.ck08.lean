/-! THE CHECKS, by program: every row of every method. -/
theorem abCk328 : (List.range 1).all (fun j => ab_ck (abZ (fun _ _ => none) (fun _ => none)) abK (328 + j)) = true := by decide +kernel
theorem abCk329 : (List.range 2).all (fun j => ab_ck (abZ (fun _ _ => none) (fun _ => none)) abK (329 + j)) = true := by decide +kernel
