/-! THE CHECKS, by program: every row of every method. -/
theorem abCk334 : (List.range 6).all (fun j => ab_ck (abZ (fun _ _ => none) (fun _ => none)) abK (334 + j)) = true := by decide +kernel
theorem abCk340 : (List.range 13).all (fun j => ab_ck (abZ (fun _ _ => none) (fun _ => none)) abK (340 + j)) = true := by decide +kernel
