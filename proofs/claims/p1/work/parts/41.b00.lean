/-! ON THE WAY, by program. -/
theorem abm_m_x0 : abm_r [] 200000 191 [11] true (ab_dr 0 (abP 191).1) abm_m_L0 [] abG0 (abm_h abm_m_t0) 0 0 (abm_k [] 200000 191 8 11 (abm_kC 11 abm_m_L1 abm_m_t1) 0) = true := by decide +kernel
theorem abm_m_x1 : abm_r [] 200000 191 [11] true (ab_dr 8 (abP 191).1) abm_m_L1 [] abG0 (abm_h abm_m_t1) 0 0 (abm_k [] 200000 191 8 11 (abm_kC 11 abm_m_L2 abm_m_t2) 43) = true := by decide +kernel
theorem abm_m_x2 : abm_r [] 200000 191 [11] true (ab_dr 8 (abP 191).1) abm_m_L2 [] abG0 (abm_h abm_m_t2) 0 0 (abm_k [] 200000 191 8 11 (abm_kC 11 abm_m_L3 abm_m_t3) 42) = true := by decide +kernel
