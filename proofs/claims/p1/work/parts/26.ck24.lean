/-! THE CHECKS, by program: every row of every method. -/
theorem abCk590 : (List.range 14).all (fun j => ab_ck (abZ (fun _ _ => none) (fun _ => none)) abK (590 + j)) = true := by decide +kernel
theorem abCk604 : (List.range 18).all (fun j => ab_ck (abZ (fun _ _ => none) (fun _ => none)) abK (604 + j)) = true := by decide +kernel
