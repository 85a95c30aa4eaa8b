/-! ON THE WAY, by program. -/
theorem abm_f__x7 : abm_r [] 200000 506 [16] true (ab_dr 12 (abP 506).1) abm_f__L7 [] abG0 (abm_h abm_f__t7) 0 0 (abm_k [] 200000 506 12 16 (abm_kC 16 abm_f__L8 abm_f__t8) 45) = true := by decide +kernel
theorem abm_f__x8 : abm_r [] 200000 506 [16] true (ab_dr 12 (abP 506).1) abm_f__L8 [] abG0 (abm_h abm_f__t8) 0 0 (abm_k [] 200000 506 12 16 (abm_kC 16 abm_f__L9 abm_f__t9) 45) = true := by decide +kernel
theorem abm_f__x9 : abm_r [] 200000 506 [16] true (ab_dr 12 (abP 506).1) abm_f__L9 [] abG0 (abm_h abm_f__t9) 0 0 (abm_k [] 200000 506 12 16 (abm_kC 16 abm_f__L10 abm_f__t10) 45) = true := by decide +kernel
