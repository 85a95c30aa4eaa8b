/-! ON THE WAY, by program. -/
theorem abm_p_x0 : abm_r [abm_m, abm_f_] 200000 193 [22] true (ab_dr 0 (abP 193).1) abm_p_L0 [] abG0 (abm_h abm_p_t0) 0 0 (abm_k [abm_m, abm_f_] 200000 193 14 22 (abm_kC 22 abm_p_L1 abm_p_t1) 0) = true := by decide +kernel
theorem abm_p_x1 : abm_r [abm_m, abm_f_] 200000 193 [22] true (ab_dr 14 (abP 193).1) abm_p_L1 [] abG0 (abm_h abm_p_t1) 0 0 (abm_k [abm_m, abm_f_] 200000 193 14 22 (abm_kC 22 abm_p_L2 abm_p_t2) 213) = true := by decide +kernel
theorem abm_p_x2 : abm_r [abm_m, abm_f_] 200000 193 [22] true (ab_dr 14 (abP 193).1) abm_p_L2 [] abG0 (abm_h abm_p_t2) 0 0 (abm_k [abm_m, abm_f_] 200000 193 14 22 (abm_kE abm_p_R abm_p_e) 205) = true := by decide +kernel
