/-! one method's check, to see what it costs -/
theorem abCk_t : ab_ck (abZ (fun _ _ => none) (fun _ => none)) abK 14 = true := by decide +kernel
theorem abCk_t2 : ab_ck (abZ (fun _ _ => none) (fun _ => none)) abK 40 = true := by decide +kernel
