/-! ON THE WAY, by program. -/
theorem abm_m_x3 : abm_r [] 200000 191 [11] true (ab_dr 8 (abP 191).1) abm_m_L3 [] abG0 (abm_h abm_m_t3) 0 0 (abm_k [] 200000 191 8 11 (abm_kC 11 abm_m_L4 abm_m_t4) 42) = true := by decide +kernel
theorem abm_m_x4 : abm_r [] 200000 191 [11] true (ab_dr 8 (abP 191).1) abm_m_L4 [] abG0 (abm_h abm_m_t4) 0 0 (abm_k [] 200000 191 8 11 (abm_kC 11 abm_m_L5 abm_m_t5) 42) = true := by decide +kernel
theorem abm_m_x5 : abm_r [] 200000 191 [11] true (ab_dr 8 (abP 191).1) abm_m_L5 [] abG0 (abm_h abm_m_t5) 0 0 (abm_k [] 200000 191 8 11 (abm_kC 11 abm_m_L6 abm_m_t6) 42) = true := by decide +kernel
