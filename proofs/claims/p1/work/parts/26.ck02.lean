/-! THE CHECKS, by program: every row of every method. -/
theorem abCk91 : (List.range 26).all (fun j => ab_ck (abZ (fun _ _ => none) (fun _ => none)) abK (91 + j)) = true := by decide +kernel
theorem abCk117 : (List.range 23).all (fun j => ab_ck (abZ (fun _ _ => none) (fun _ => none)) abK (117 + j)) = true := by decide +kernel
