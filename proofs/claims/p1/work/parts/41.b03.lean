/-! ON THE WAY, by program. -/
theorem abm_m_x9 : abm_r [] 200000 191 [11] true (ab_dr 8 (abP 191).1) abm_m_L9 [] abG0 (abm_h abm_m_t9) 0 0 (abm_k [] 200000 191 8 11 (abm_kC 11 abm_m_L10 abm_m_t10) 43) = true := by decide +kernel
theorem abm_m_x10 : abm_r [] 200000 191 [11] true (ab_dr 8 (abP 191).1) abm_m_L10 [] abG0 (abm_h abm_m_t10) 0 0 (abm_k [] 200000 191 8 11 (abm_kE abm_m_R abm_m_e) 9) = true := by decide +kernel
theorem abm_f__x0 : abm_r [] 200000 506 [16] true (ab_dr 0 (abP 506).1) abm_f__L0 [] abG0 (abm_h abm_f__t0) 0 0 (abm_k [] 200000 506 12 16 (abm_kC 16 abm_f__L1 abm_f__t1) 0) = true := by decide +kernel
