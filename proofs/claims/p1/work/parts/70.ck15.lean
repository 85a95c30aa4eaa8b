/-! THE CHECKS, by program: every row of every method. -/
theorem abCk578 : (List.range 20).all (fun j => ab_ck (abZ (fun _ _ => none) (fun _ => none)) abK (578 + j)) = true := by decide +kernel
theorem abCk598 : (List.range 25).all (fun j => ab_ck (abZ (fun _ _ => none) (fun _ => none)) abK (598 + j)) = true := by decide +kernel
