/-! CALL 407, all. -/
theorem abq_all {ρ : Nat → Int} (hs : ab_Sat ρ abG40) (e1 : ρ 1 = 407) (h8 : ρ 8 = 0) (h2 : 0 ≤ ρ 2) (h3 : 0 ≤ ρ 3) : abCs ρ := by
  have hK := abqK_le ρ abq_l
  have hL : abq_l.length = 100 := rfl
  by_cases c20 : abqK ρ abq_l < 20
  · exact abq_go hs e1 h8 h2 h3 abq_g0 (by omega) c20
  by_cases c30 : abqK ρ abq_l < 30
  · exact abq_go hs e1 h8 h2 h3 abq_g20 (by omega) c30
  by_cases c37 : abqK ρ abq_l < 37
  · exact abq_go hs e1 h8 h2 h3 abq_g30 (by omega) c37
  by_cases c43 : abqK ρ abq_l < 43
  · exact abq_go hs e1 h8 h2 h3 abq_g37 (by omega) c43
  by_cases c48 : abqK ρ abq_l < 48
  · exact abq_go hs e1 h8 h2 h3 abq_g43 (by omega) c48
  by_cases c53 : abqK ρ abq_l < 53
  · exact abq_go hs e1 h8 h2 h3 abq_g48 (by omega) c53
  by_cases c57 : abqK ρ abq_l < 57
  · exact abq_go hs e1 h8 h2 h3 abq_g53 (by omega) c57
  by_cases c61 : abqK ρ abq_l < 61
  · exact abq_go hs e1 h8 h2 h3 abq_g57 (by omega) c61
  by_cases c65 : abqK ρ abq_l < 65
  · exact abq_go hs e1 h8 h2 h3 abq_g61 (by omega) c65
  by_cases c69 : abqK ρ abq_l < 69
  · exact abq_go hs e1 h8 h2 h3 abq_g65 (by omega) c69
  by_cases c72 : abqK ρ abq_l < 72
  · exact abq_go hs e1 h8 h2 h3 abq_g69 (by omega) c72
  by_cases c75 : abqK ρ abq_l < 75
  · exact abq_go hs e1 h8 h2 h3 abq_g72 (by omega) c75
  by_cases c78 : abqK ρ abq_l < 78
  · exact abq_go hs e1 h8 h2 h3 abq_g75 (by omega) c78
  by_cases c81 : abqK ρ abq_l < 81
  · exact abq_go hs e1 h8 h2 h3 abq_g78 (by omega) c81
  by_cases c84 : abqK ρ abq_l < 84
  · exact abq_go hs e1 h8 h2 h3 abq_g81 (by omega) c84
  by_cases c87 : abqK ρ abq_l < 87
  · exact abq_go hs e1 h8 h2 h3 abq_g84 (by omega) c87
  by_cases c90 : abqK ρ abq_l < 90
  · exact abq_go hs e1 h8 h2 h3 abq_g87 (by omega) c90
  by_cases c93 : abqK ρ abq_l < 93
  · exact abq_go hs e1 h8 h2 h3 abq_g90 (by omega) c93
  by_cases c95 : abqK ρ abq_l < 95
  · exact abq_go hs e1 h8 h2 h3 abq_g93 (by omega) c95
  by_cases c97 : abqK ρ abq_l < 97
  · exact abq_go hs e1 h8 h2 h3 abq_g95 (by omega) c97
  by_cases c99 : abqK ρ abq_l < 99
  · exact abq_go hs e1 h8 h2 h3 abq_g97 (by omega) c99
  by_cases c101 : abqK ρ abq_l < 101
  · exact abq_go hs e1 h8 h2 h3 abq_g99 (by omega) c101
  omega
