/-! ON THE WAY, by program. -/
theorem abm_f__x4 : abm_r [] 200000 506 [16] true (ab_dr 12 (abP 506).1) abm_f__L4 [] abG0 (abm_h abm_f__t4) 0 0 (abm_k [] 200000 506 12 16 (abm_kC 16 abm_f__L5 abm_f__t5) 41) = true := by decide +kernel
theorem abm_f__x5 : abm_r [] 200000 506 [16] true (ab_dr 12 (abP 506).1) abm_f__L5 [] abG0 (abm_h abm_f__t5) 0 0 (abm_k [] 200000 506 12 16 (abm_kC 16 abm_f__L6 abm_f__t6) 41) = true := by decide +kernel
theorem abm_f__x6 : abm_r [] 200000 506 [16] true (ab_dr 12 (abP 506).1) abm_f__L6 [] abG0 (abm_h abm_f__t6) 0 0 (abm_k [] 200000 506 12 16 (abm_kC 16 abm_f__L7 abm_f__t7) 47) = true := by decide +kernel
