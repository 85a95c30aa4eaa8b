/-! ON THE WAY, by program. -/
theorem abm_f__x10 : abm_r [] 200000 506 [16] true (ab_dr 12 (abP 506).1) abm_f__L10 [] abG0 (abm_h abm_f__t10) 0 0 (abm_k [] 200000 506 12 16 (abm_kE abm_f__R abm_f__e) 2) = true := by decide +kernel
