/-! THE CHECKS, by program: every row of every method. -/
theorem abCk522 : (List.range 14).all (fun j => ab_ck (abZ (fun _ _ => none) (fun _ => none)) abK (522 + j)) = true := by decide +kernel
theorem abCk536 : (List.range 11).all (fun j => ab_ck (abZ (fun _ _ => none) (fun _ => none)) abK (536 + j)) = true := by decide +kernel
