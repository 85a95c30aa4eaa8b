/-! ON THE WAY, by program. -/
theorem abm_p_g2 (hAx : ab_Ax) {U : ab_UT} : abm_G U 193 22 abm_p_L2 abm_p_t2 abm_p_R abm_p_e := abm_seg hAx abm_tb (abm_two hAx) (abm_kE_ok abm_p_Rc abm_p_ec) abm_p_at22 abm_p_at22 abm_p_c2.1 abm_p_c2.2 abm_p_x2
theorem abm_p_g1 (hAx : ab_Ax) {U : ab_UT} : abm_G U 193 22 abm_p_L1 abm_p_t1 abm_p_R abm_p_e := abm_seg hAx abm_tb (abm_two hAx) (abm_kC_ok abm_p_c2.1 abm_p_c2.2 (abm_p_g2 hAx)) abm_p_at22 abm_p_at22 abm_p_c1.1 abm_p_c1.2 abm_p_x1
theorem abm_p_g0 (hAx : ab_Ax) {U : ab_UT} : abm_G U 193 0 abm_p_L0 abm_p_t0 abm_p_R abm_p_e := abm_seg hAx abm_tb (abm_two hAx) (abm_kC_ok abm_p_c1.1 abm_p_c1.2 (abm_p_g1 hAx)) abm_p_at22 abm_p_at0 abm_p_c0.1 abm_p_c0.2 abm_p_x0
def abm_p : abm_E := (193, abm_p_L0, abm_p_t0, abm_p_R, abm_p_e)
theorem abm_p_K (hAx : ab_Ax) {U : ab_UT} : abm_K U abm_p := ⟨abm_p_c0.1, abm_p_c0.2, abm_p_g0 hAx⟩
theorem abm_q_g2 (hAx : ab_Ax) {U : ab_UT} : abm_G U 512 9 abm_q_L2 abm_q_t2 abm_q_R abm_q_e := abm_seg hAx abm_tb (abm_two hAx) (abm_kE_ok abm_q_Rc abm_q_ec) abm_q_at9 abm_q_at9 abm_q_c2.1 abm_q_c2.2 abm_q_x2
theorem abm_q_g1 (hAx : ab_Ax) {U : ab_UT} : abm_G U 512 9 abm_q_L1 abm_q_t1 abm_q_R abm_q_e := abm_seg hAx abm_tb (abm_two hAx) (abm_kC_ok abm_q_c2.1 abm_q_c2.2 (abm_q_g2 hAx)) abm_q_at9 abm_q_at9 abm_q_c1.1 abm_q_c1.2 abm_q_x1
theorem abm_q_g0 (hAx : ab_Ax) {U : ab_UT} : abm_G U 512 0 abm_q_L0 abm_q_t0 abm_q_R abm_q_e := abm_seg hAx abm_tb (abm_two hAx) (abm_kC_ok abm_q_c1.1 abm_q_c1.2 (abm_q_g1 hAx)) abm_q_at9 abm_q_at0 abm_q_c0.1 abm_q_c0.2 abm_q_x0
def abm_q : abm_E := (512, abm_q_L0, abm_q_t0, abm_q_R, abm_q_e)
theorem abm_q_K (hAx : ab_Ax) {U : ab_UT} : abm_K U abm_q := ⟨abm_q_c0.1, abm_q_c0.2, abm_q_g0 hAx⟩
theorem abm_all (hAx : ab_Ax) {U : ab_UT} : ∀ e ∈ [abm_p, abm_q], abm_K U e := fun e he => by
  rcases List.mem_cons.mp he with rfl | he
  · exact abm_p_K hAx
  rcases List.mem_cons.mp he with rfl | he
  · exact abm_q_K hAx
  cases he
theorem abm_611 : abm_r [abm_p, abm_q] 200000 0 [] true (ab_dr 24 (abP 0).1) abL0 [.inl (.inl (.inr 8))] (abGs [(1, .ofNat 611, .ofNat 611), (8, .ofNat 0, .ofNat 0)]) abH0 489 917392 abKfin = true := by decide +kernel
