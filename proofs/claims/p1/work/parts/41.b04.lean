/-! ON THE WAY, by program. -/
theorem abm_f__x1 : abm_r [] 200000 506 [16] true (ab_dr 12 (abP 506).1) abm_f__L1 [] abG0 (abm_h abm_f__t1) 0 0 (abm_k [] 200000 506 12 16 (abm_kC 16 abm_f__L2 abm_f__t2) 43) = true := by decide +kernel
theorem abm_f__x2 : abm_r [] 200000 506 [16] true (ab_dr 12 (abP 506).1) abm_f__L2 [] abG0 (abm_h abm_f__t2) 0 0 (abm_k [] 200000 506 12 16 (abm_kC 16 abm_f__L3 abm_f__t3) 41) = true := by decide +kernel
theorem abm_f__x3 : abm_r [] 200000 506 [16] true (ab_dr 12 (abP 506).1) abm_f__L3 [] abG0 (abm_h abm_f__t3) 0 0 (abm_k [] 200000 506 12 16 (abm_kC 16 abm_f__L4 abm_f__t4) 41) = true := by decide +kernel
