/-! THE CHECKS, by program: every row of every method. -/
theorem abCk353 : (List.range 14).all (fun j => ab_ck (abZ (fun _ _ => none) (fun _ => none)) abK (353 + j)) = true := by decide +kernel
theorem abCk367 : (List.range 15).all (fun j => ab_ck (abZ (fun _ _ => none) (fun _ => none)) abK (367 + j)) = true := by decide +kernel
