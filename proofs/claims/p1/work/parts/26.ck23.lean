/-! THE CHECKS, by program: every row of every method. -/
theorem abCk563 : (List.range 18).all (fun j => ab_ck (abZ (fun _ _ => none) (fun _ => none)) abK (563 + j)) = true := by decide +kernel
theorem abCk581 : (List.range 9).all (fun j => ab_ck (abZ (fun _ _ => none) (fun _ => none)) abK (581 + j)) = true := by decide +kernel
