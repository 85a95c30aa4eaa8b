/-! THE CHECKS, by program: every row of every method. -/
theorem abCk335 : (List.range 1).all (fun j => ab_ck (abZ (fun _ _ => none) (fun _ => none)) abK (335 + j)) = true := by decide +kernel
theorem abCk336 : (List.range 4).all (fun j => ab_ck (abZ (fun _ _ => none) (fun _ => none)) abK (336 + j)) = true := by decide +kernel
