/-! THE CHECKS, by program: every row of every method. -/
theorem abCk623 : (List.range 7).all (fun j => ab_ck (abZ (fun _ _ => none) (fun _ => none)) abK (623 + j)) = true := by decide +kernel
