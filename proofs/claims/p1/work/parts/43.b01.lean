/-! ON THE WAY, by program. -/
theorem abm_q_x0 : abm_r [abm_m, abm_f_] 200000 512 [9] true (ab_dr 0 (abP 512).1) abm_q_L0 [] abG0 (abm_h abm_q_t0) 0 0 (abm_k [abm_m, abm_f_] 200000 512 7 9 (abm_kC 9 abm_q_L1 abm_q_t1) 0) = true := by decide +kernel
theorem abm_q_x1 : abm_r [abm_m, abm_f_] 200000 512 [9] true (ab_dr 7 (abP 512).1) abm_q_L1 [] abG0 (abm_h abm_q_t1) 0 0 (abm_k [abm_m, abm_f_] 200000 512 7 9 (abm_kC 9 abm_q_L2 abm_q_t2) 245) = true := by decide +kernel
theorem abm_q_x2 : abm_r [abm_m, abm_f_] 200000 512 [9] true (ab_dr 7 (abP 512).1) abm_q_L2 [] abG0 (abm_h abm_q_t2) 0 0 (abm_k [abm_m, abm_f_] 200000 512 7 9 (abm_kE abm_q_R abm_q_e) 154) = true := by decide +kernel
