/-! THE CHECKS, by program: every row of every method. -/
theorem abCk18 : (List.range 24).all (fun j => ab_ck (abZ (fun _ _ => none) (fun _ => none)) abK (18 * 24 + j)) = true := by decide +kernel
theorem abCk19 : (List.range 24).all (fun j => ab_ck (abZ (fun _ _ => none) (fun _ => none)) abK (19 * 24 + j)) = true := by decide +kernel
theorem abCk20 : (List.range 24).all (fun j => ab_ck (abZ (fun _ _ => none) (fun _ => none)) abK (20 * 24 + j)) = true := by decide +kernel
