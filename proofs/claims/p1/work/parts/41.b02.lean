/-! ON THE WAY, by program. -/
theorem abm_m_x6 : abm_r [] 200000 191 [11] true (ab_dr 8 (abP 191).1) abm_m_L6 [] abG0 (abm_h abm_m_t6) 0 0 (abm_k [] 200000 191 8 11 (abm_kC 11 abm_m_L7 abm_m_t7) 42) = true := by decide +kernel
theorem abm_m_x7 : abm_r [] 200000 191 [11] true (ab_dr 8 (abP 191).1) abm_m_L7 [] abG0 (abm_h abm_m_t7) 0 0 (abm_k [] 200000 191 8 11 (abm_kC 11 abm_m_L8 abm_m_t8) 43) = true := by decide +kernel
theorem abm_m_x8 : abm_r [] 200000 191 [11] true (ab_dr 8 (abP 191).1) abm_m_L8 [] abG0 (abm_h abm_m_t8) 0 0 (abm_k [] 200000 191 8 11 (abm_kC 11 abm_m_L9 abm_m_t9) 43) = true := by decide +kernel
