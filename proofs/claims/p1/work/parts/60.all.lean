/-! ALL CASES of the first call. -/
theorem ab_cs1 {ρ : Nat → Int} {l : List ((Nat × Nat) × ab_B)} {v1 : Nat} {p1 q1 : Int} (h : abGo l [(v1, p1, q1)] = true) (a1 : v1 < 9) (b1 : p1 ≤ ρ v1) (c1 : ρ v1 ≤ q1) : abCs ρ := Or.inl ⟨_, _, h, fun q hq => by
  rcases List.mem_cons.mp hq with rfl | hq
  · exact ⟨a1, b1, c1⟩
  cases hq⟩
theorem ab_cs2 {ρ : Nat → Int} {l : List ((Nat × Nat) × ab_B)} {v1 v2 : Nat} {p1 q1 p2 q2 : Int} (h : abGo l [(v1, p1, q1), (v2, p2, q2)] = true) (a1 : v1 < 9 ∧ v2 < 9) (b1 : p1 ≤ ρ v1) (c1 : ρ v1 ≤ q1) (b2 : p2 ≤ ρ v2) (c2 : ρ v2 ≤ q2) : abCs ρ := Or.inl ⟨_, _, h, fun q hq => by
  rcases List.mem_cons.mp hq with rfl | hq
  · exact ⟨a1.1, b1, c1⟩
  rcases List.mem_cons.mp hq with rfl | hq
  · exact ⟨a1.2, b2, c2⟩
  cases hq⟩
theorem ab_cs3 {ρ : Nat → Int} {l : List ((Nat × Nat) × ab_B)} {v1 v2 v3 : Nat} {p1 q1 p2 q2 p3 q3 : Int} (h : abGo l [(v1, p1, q1), (v2, p2, q2), (v3, p3, q3)] = true) (a1 : v1 < 9 ∧ v2 < 9 ∧ v3 < 9) (b1 : p1 ≤ ρ v1) (c1 : ρ v1 ≤ q1) (b2 : p2 ≤ ρ v2) (c2 : ρ v2 ≤ q2) (b3 : p3 ≤ ρ v3) (c3 : ρ v3 ≤ q3) : abCs ρ := Or.inl ⟨_, _, h, fun q hq => by
  rcases List.mem_cons.mp hq with rfl | hq
  · exact ⟨a1.1, b1, c1⟩
  rcases List.mem_cons.mp hq with rfl | hq
  · exact ⟨a1.2.1, b2, c2⟩
  rcases List.mem_cons.mp hq with rfl | hq
  · exact ⟨a1.2.2, b3, c3⟩
  cases hq⟩
theorem ab_cs4 {ρ : Nat → Int} {l : List ((Nat × Nat) × ab_B)} {v1 v2 v3 v4 : Nat} {p1 q1 p2 q2 p3 q3 p4 q4 : Int} (h : abGo l [(v1, p1, q1), (v2, p2, q2), (v3, p3, q3), (v4, p4, q4)] = true) (a1 : v1 < 9 ∧ v2 < 9 ∧ v3 < 9 ∧ v4 < 9) (b1 : p1 ≤ ρ v1) (c1 : ρ v1 ≤ q1) (b2 : p2 ≤ ρ v2) (c2 : ρ v2 ≤ q2) (b3 : p3 ≤ ρ v3) (c3 : ρ v3 ≤ q3) (b4 : p4 ≤ ρ v4) (c4 : ρ v4 ≤ q4) : abCs ρ := Or.inl ⟨_, _, h, fun q hq => by
  rcases List.mem_cons.mp hq with rfl | hq
  · exact ⟨a1.1, b1, c1⟩
  rcases List.mem_cons.mp hq with rfl | hq
  · exact ⟨a1.2.1, b2, c2⟩
  rcases List.mem_cons.mp hq with rfl | hq
  · exact ⟨a1.2.2.1, b3, c3⟩
  rcases List.mem_cons.mp hq with rfl | hq
  · exact ⟨a1.2.2.2, b4, c4⟩
  cases hq⟩
theorem ab_onN {n : Nat} : Int.ofNat n = (n : Int) := rfl
theorem ab_ngN {n : Nat} : Int.negSucc n = -((n : Int) + 1) := rfl
theorem ab_all_act {ρ : Nat → Int} (hs : ab_Sat ρ abG40) (h8 : ρ 8 = 0) : abCs ρ := by
  have v1 : (-2147483648 : Int) ≤ ρ 1 ∧ ρ 1 ≤ (2147483647 : Int) := (hs.1 1 (-2147483648, 2147483647) rfl).2
  have v2 : (-2147483648 : Int) ≤ ρ 2 ∧ ρ 2 ≤ (2147483647 : Int) := (hs.1 2 (-2147483648, 2147483647) rfl).2
  have v3 : (-2147483648 : Int) ≤ ρ 3 ∧ ρ 3 ≤ (2147483647 : Int) := (hs.1 3 (-2147483648, 2147483647) rfl).2
  by_cases c0 : ρ 1 < 0
  · exact ab_cs2 abR_lo (by decide) (by first | (rw [ab_onN]; omega) | (rw [ab_ngN]; omega)) (by first | (rw [ab_onN]; omega) | (rw [ab_ngN]; omega)) (by first | (rw [ab_onN]; omega) | (rw [ab_ngN]; omega)) (by first | (rw [ab_onN]; omega) | (rw [ab_ngN]; omega))
  by_cases c1 : 1000 ≤ ρ 1
  · exact ab_cs2 abR_hi (by decide) (by first | (rw [ab_onN]; omega) | (rw [ab_ngN]; omega)) (by first | (rw [ab_onN]; omega) | (rw [ab_ngN]; omega)) (by first | (rw [ab_onN]; omega) | (rw [ab_ngN]; omega)) (by first | (rw [ab_onN]; omega) | (rw [ab_ngN]; omega))
  by_cases c2 : ρ 1 < 5
  · exact ab_seg (a := 0) (n := 5) h8 abS_0 (by omega) (by omega)
  by_cases c3 : ρ 1 < 6
  · exact ab_cs2 abR_c5 (by decide) (by first | (rw [ab_onN]; omega) | (rw [ab_ngN]; omega)) (by first | (rw [ab_onN]; omega) | (rw [ab_ngN]; omega)) (by first | (rw [ab_onN]; omega) | (rw [ab_ngN]; omega)) (by first | (rw [ab_onN]; omega) | (rw [ab_ngN]; omega))
  by_cases c4 : ρ 1 < 8
  · exact ab_seg (a := 6) (n := 2) h8 abS_6 (by omega) (by omega)
  by_cases c5 : ρ 1 < 9
  · exact ab_cs2 abR_c8 (by decide) (by first | (rw [ab_onN]; omega) | (rw [ab_ngN]; omega)) (by first | (rw [ab_onN]; omega) | (rw [ab_ngN]; omega)) (by first | (rw [ab_onN]; omega) | (rw [ab_ngN]; omega)) (by first | (rw [ab_onN]; omega) | (rw [ab_ngN]; omega))
  by_cases c6 : ρ 1 < 12
  · exact ab_seg (a := 9) (n := 3) h8 abS_9 (by omega) (by omega)
  by_cases c7 : ρ 1 < 13
  · exact ab_cs2 abR_c12 (by decide) (by first | (rw [ab_onN]; omega) | (rw [ab_ngN]; omega)) (by first | (rw [ab_onN]; omega) | (rw [ab_ngN]; omega)) (by first | (rw [ab_onN]; omega) | (rw [ab_ngN]; omega)) (by first | (rw [ab_onN]; omega) | (rw [ab_ngN]; omega))
  by_cases c8 : ρ 1 < 100
  · exact ab_seg (a := 13) (n := 87) h8 abS_13 (by omega) (by omega)
  by_cases c9 : ρ 1 < 101
  · exact ab_cs2 abR_c100 (by decide) (by first | (rw [ab_onN]; omega) | (rw [ab_ngN]; omega)) (by first | (rw [ab_onN]; omega) | (rw [ab_ngN]; omega)) (by first | (rw [ab_onN]; omega) | (rw [ab_ngN]; omega)) (by first | (rw [ab_onN]; omega) | (rw [ab_ngN]; omega))
  by_cases c10 : ρ 1 < 108
  · exact ab_seg (a := 101) (n := 7) h8 abS_101 (by omega) (by omega)
  by_cases c11 : ρ 1 < 109
  · have e1 : ρ 1 = 108 := by omega
    by_cases d0 : (-2147483648 ≤ ρ 2 ∧ ρ 2 ≤ -1)
    · exact ab_cs3 abR_c108_l (by decide) (by first | (rw [ab_onN]; omega) | (rw [ab_ngN]; omega)) (by first | (rw [ab_onN]; omega) | (rw [ab_ngN]; omega)) (by first | (rw [ab_onN]; omega) | (rw [ab_ngN]; omega)) (by first | (rw [ab_onN]; omega) | (rw [ab_ngN]; omega)) (by first | (rw [ab_onN]; omega) | (rw [ab_ngN]; omega)) (by first | (rw [ab_onN]; omega) | (rw [ab_ngN]; omega))
    by_cases d1 : (2 ≤ ρ 2 ∧ ρ 2 ≤ 2147483647)
    · exact ab_cs3 abR_c108_h (by decide) (by first | (rw [ab_onN]; omega) | (rw [ab_ngN]; omega)) (by first | (rw [ab_onN]; omega) | (rw [ab_ngN]; omega)) (by first | (rw [ab_onN]; omega) | (rw [ab_ngN]; omega)) (by first | (rw [ab_onN]; omega) | (rw [ab_ngN]; omega)) (by first | (rw [ab_onN]; omega) | (rw [ab_ngN]; omega)) (by first | (rw [ab_onN]; omega) | (rw [ab_ngN]; omega))
    by_cases d2 : (-2147483648 ≤ ρ 3 ∧ ρ 3 ≤ 0) ∧ (0 ≤ ρ 2 ∧ ρ 2 ≤ 0)
    · exact ab_cs4 abR_c108_0l (by decide) (by first | (rw [ab_onN]; omega) | (rw [ab_ngN]; omega)) (by first | (rw [ab_onN]; omega) | (rw [ab_ngN]; omega)) (by first | (rw [ab_onN]; omega) | (rw [ab_ngN]; omega)) (by first | (rw [ab_onN]; omega) | (rw [ab_ngN]; omega)) (by first | (rw [ab_onN]; omega) | (rw [ab_ngN]; omega)) (by first | (rw [ab_onN]; omega) | (rw [ab_ngN]; omega)) (by first | (rw [ab_onN]; omega) | (rw [ab_ngN]; omega)) (by first | (rw [ab_onN]; omega) | (rw [ab_ngN]; omega))
    by_cases d3 : (4 ≤ ρ 3 ∧ ρ 3 ≤ 2147483647) ∧ (0 ≤ ρ 2 ∧ ρ 2 ≤ 0)
    · exact ab_cs4 abR_c108_0h (by decide) (by first | (rw [ab_onN]; omega) | (rw [ab_ngN]; omega)) (by first | (rw [ab_onN]; omega) | (rw [ab_ngN]; omega)) (by first | (rw [ab_onN]; omega) | (rw [ab_ngN]; omega)) (by first | (rw [ab_onN]; omega) | (rw [ab_ngN]; omega)) (by first | (rw [ab_onN]; omega) | (rw [ab_ngN]; omega)) (by first | (rw [ab_onN]; omega) | (rw [ab_ngN]; omega)) (by first | (rw [ab_onN]; omega) | (rw [ab_ngN]; omega)) (by first | (rw [ab_onN]; omega) | (rw [ab_ngN]; omega))
    by_cases d4 : (1 ≤ ρ 3 ∧ ρ 3 ≤ 1) ∧ (0 ≤ ρ 2 ∧ ρ 2 ≤ 0)
    · exact ab_cs4 abR_c108_0_1 (by decide) (by first | (rw [ab_onN]; omega) | (rw [ab_ngN]; omega)) (by first | (rw [ab_onN]; omega) | (rw [ab_ngN]; omega)) (by first | (rw [ab_onN]; omega) | (rw [ab_ngN]; omega)) (by first | (rw [ab_onN]; omega) | (rw [ab_ngN]; omega)) (by first | (rw [ab_onN]; omega) | (rw [ab_ngN]; omega)) (by first | (rw [ab_onN]; omega) | (rw [ab_ngN]; omega)) (by first | (rw [ab_onN]; omega) | (rw [ab_ngN]; omega)) (by first | (rw [ab_onN]; omega) | (rw [ab_ngN]; omega))
    by_cases d5 : (2 ≤ ρ 3 ∧ ρ 3 ≤ 2) ∧ (0 ≤ ρ 2 ∧ ρ 2 ≤ 0)
    · exact ab_cs4 abR_c108_0_2 (by decide) (by first | (rw [ab_onN]; omega) | (rw [ab_ngN]; omega)) (by first | (rw [ab_onN]; omega) | (rw [ab_ngN]; omega)) (by first | (rw [ab_onN]; omega) | (rw [ab_ngN]; omega)) (by first | (rw [ab_onN]; omega) | (rw [ab_ngN]; omega)) (by first | (rw [ab_onN]; omega) | (rw [ab_ngN]; omega)) (by first | (rw [ab_onN]; omega) | (rw [ab_ngN]; omega)) (by first | (rw [ab_onN]; omega) | (rw [ab_ngN]; omega)) (by first | (rw [ab_onN]; omega) | (rw [ab_ngN]; omega))
    by_cases d6 : (3 ≤ ρ 3 ∧ ρ 3 ≤ 3) ∧ (0 ≤ ρ 2 ∧ ρ 2 ≤ 0)
    · exact ab_cs4 abR_c108_0_3 (by decide) (by first | (rw [ab_onN]; omega) | (rw [ab_ngN]; omega)) (by first | (rw [ab_onN]; omega) | (rw [ab_ngN]; omega)) (by first | (rw [ab_onN]; omega) | (rw [ab_ngN]; omega)) (by first | (rw [ab_onN]; omega) | (rw [ab_ngN]; omega)) (by first | (rw [ab_onN]; omega) | (rw [ab_ngN]; omega)) (by first | (rw [ab_onN]; omega) | (rw [ab_ngN]; omega)) (by first | (rw [ab_onN]; omega) | (rw [ab_ngN]; omega)) (by first | (rw [ab_onN]; omega) | (rw [ab_ngN]; omega))
    by_cases d7 : (-2147483648 ≤ ρ 3 ∧ ρ 3 ≤ 0) ∧ (1 ≤ ρ 2 ∧ ρ 2 ≤ 1)
    · exact ab_cs4 abR_c108_1l (by decide) (by first | (rw [ab_onN]; omega) | (rw [ab_ngN]; omega)) (by first | (rw [ab_onN]; omega) | (rw [ab_ngN]; omega)) (by first | (rw [ab_onN]; omega) | (rw [ab_ngN]; omega)) (by first | (rw [ab_onN]; omega) | (rw [ab_ngN]; omega)) (by first | (rw [ab_onN]; omega) | (rw [ab_ngN]; omega)) (by first | (rw [ab_onN]; omega) | (rw [ab_ngN]; omega)) (by first | (rw [ab_onN]; omega) | (rw [ab_ngN]; omega)) (by first | (rw [ab_onN]; omega) | (rw [ab_ngN]; omega))
    by_cases d8 : (4 ≤ ρ 3 ∧ ρ 3 ≤ 2147483647) ∧ (1 ≤ ρ 2 ∧ ρ 2 ≤ 1)
    · exact ab_cs4 abR_c108_1h (by decide) (by first | (rw [ab_onN]; omega) | (rw [ab_ngN]; omega)) (by first | (rw [ab_onN]; omega) | (rw [ab_ngN]; omega)) (by first | (rw [ab_onN]; omega) | (rw [ab_ngN]; omega)) (by first | (rw [ab_onN]; omega) | (rw [ab_ngN]; omega)) (by first | (rw [ab_onN]; omega) | (rw [ab_ngN]; omega)) (by first | (rw [ab_onN]; omega) | (rw [ab_ngN]; omega)) (by first | (rw [ab_onN]; omega) | (rw [ab_ngN]; omega)) (by first | (rw [ab_onN]; omega) | (rw [ab_ngN]; omega))
    by_cases d9 : (1 ≤ ρ 3 ∧ ρ 3 ≤ 1) ∧ (1 ≤ ρ 2 ∧ ρ 2 ≤ 1)
    · exact ab_cs4 abR_c108_1_1 (by decide) (by first | (rw [ab_onN]; omega) | (rw [ab_ngN]; omega)) (by first | (rw [ab_onN]; omega) | (rw [ab_ngN]; omega)) (by first | (rw [ab_onN]; omega) | (rw [ab_ngN]; omega)) (by first | (rw [ab_onN]; omega) | (rw [ab_ngN]; omega)) (by first | (rw [ab_onN]; omega) | (rw [ab_ngN]; omega)) (by first | (rw [ab_onN]; omega) | (rw [ab_ngN]; omega)) (by first | (rw [ab_onN]; omega) | (rw [ab_ngN]; omega)) (by first | (rw [ab_onN]; omega) | (rw [ab_ngN]; omega))
    by_cases d10 : (2 ≤ ρ 3 ∧ ρ 3 ≤ 2) ∧ (1 ≤ ρ 2 ∧ ρ 2 ≤ 1)
    · exact ab_cs4 abR_c108_1_2 (by decide) (by first | (rw [ab_onN]; omega) | (rw [ab_ngN]; omega)) (by first | (rw [ab_onN]; omega) | (rw [ab_ngN]; omega)) (by first | (rw [ab_onN]; omega) | (rw [ab_ngN]; omega)) (by first | (rw [ab_onN]; omega) | (rw [ab_ngN]; omega)) (by first | (rw [ab_onN]; omega) | (rw [ab_ngN]; omega)) (by first | (rw [ab_onN]; omega) | (rw [ab_ngN]; omega)) (by first | (rw [ab_onN]; omega) | (rw [ab_ngN]; omega)) (by first | (rw [ab_onN]; omega) | (rw [ab_ngN]; omega))
    by_cases d11 : (3 ≤ ρ 3 ∧ ρ 3 ≤ 3) ∧ (1 ≤ ρ 2 ∧ ρ 2 ≤ 1)
    · exact ab_cs4 abR_c108_1_3 (by decide) (by first | (rw [ab_onN]; omega) | (rw [ab_ngN]; omega)) (by first | (rw [ab_onN]; omega) | (rw [ab_ngN]; omega)) (by first | (rw [ab_onN]; omega) | (rw [ab_ngN]; omega)) (by first | (rw [ab_onN]; omega) | (rw [ab_ngN]; omega)) (by first | (rw [ab_onN]; omega) | (rw [ab_ngN]; omega)) (by first | (rw [ab_onN]; omega) | (rw [ab_ngN]; omega)) (by first | (rw [ab_onN]; omega) | (rw [ab_ngN]; omega)) (by first | (rw [ab_onN]; omega) | (rw [ab_ngN]; omega))
    exfalso
    omega
  by_cases c12 : ρ 1 < 110
  · exact ab_cs2 abR_c109 (by decide) (by first | (rw [ab_onN]; omega) | (rw [ab_ngN]; omega)) (by first | (rw [ab_onN]; omega) | (rw [ab_ngN]; omega)) (by first | (rw [ab_onN]; omega) | (rw [ab_ngN]; omega)) (by first | (rw [ab_onN]; omega) | (rw [ab_ngN]; omega))
  by_cases c13 : ρ 1 < 202
  · exact ab_seg (a := 110) (n := 92) h8 abS_110 (by omega) (by omega)
  by_cases c14 : ρ 1 < 203
  · have e1 : ρ 1 = 202 := by omega
    by_cases d0 : (-2147483648 ≤ ρ 2 ∧ ρ 2 ≤ 9)
    · exact ab_cs3 abR_c202_0 (by decide) (by first | (rw [ab_onN]; omega) | (rw [ab_ngN]; omega)) (by first | (rw [ab_onN]; omega) | (rw [ab_ngN]; omega)) (by first | (rw [ab_onN]; omega) | (rw [ab_ngN]; omega)) (by first | (rw [ab_onN]; omega) | (rw [ab_ngN]; omega)) (by first | (rw [ab_onN]; omega) | (rw [ab_ngN]; omega)) (by first | (rw [ab_onN]; omega) | (rw [ab_ngN]; omega))
    by_cases d1 : (10 ≤ ρ 2 ∧ ρ 2 ≤ 2147483647)
    · exact ab_cs3 abR_c202_1 (by decide) (by first | (rw [ab_onN]; omega) | (rw [ab_ngN]; omega)) (by first | (rw [ab_onN]; omega) | (rw [ab_ngN]; omega)) (by first | (rw [ab_onN]; omega) | (rw [ab_ngN]; omega)) (by first | (rw [ab_onN]; omega) | (rw [ab_ngN]; omega)) (by first | (rw [ab_onN]; omega) | (rw [ab_ngN]; omega)) (by first | (rw [ab_onN]; omega) | (rw [ab_ngN]; omega))
    exfalso
    omega
  by_cases c15 : ρ 1 < 303
  · exact ab_seg (a := 203) (n := 100) h8 abS_203 (by omega) (by omega)
  by_cases c16 : ρ 1 < 321
  · exact ab_seg (a := 303) (n := 18) h8 abS_303 (by omega) (by omega)
  by_cases c17 : ρ 1 < 375
  · exact ab_seg (a := 321) (n := 54) h8 abS_321 (by omega) (by omega)
  by_cases c18 : ρ 1 < 405
  · exact ab_seg (a := 375) (n := 30) h8 abS_375 (by omega) (by omega)
  by_cases c19 : ρ 1 < 406
  · exact ab_seg (a := 405) (n := 1) h8 abS_405 (by omega) (by omega)
  by_cases c20 : ρ 1 < 407
  · exact ab_seg (a := 406) (n := 1) h8 abS_406 (by omega) (by omega)
  by_cases c21 : ρ 1 < 408
  · have e1 : ρ 1 = 407 := by omega
    by_cases d0 : (-2147483648 ≤ ρ 2 ∧ ρ 2 ≤ -1)
    · exact ab_cs3 abR_c407_a (by decide) (by first | (rw [ab_onN]; omega) | (rw [ab_ngN]; omega)) (by first | (rw [ab_onN]; omega) | (rw [ab_ngN]; omega)) (by first | (rw [ab_onN]; omega) | (rw [ab_ngN]; omega)) (by first | (rw [ab_onN]; omega) | (rw [ab_ngN]; omega)) (by first | (rw [ab_onN]; omega) | (rw [ab_ngN]; omega)) (by first | (rw [ab_onN]; omega) | (rw [ab_ngN]; omega))
    by_cases d1 : (-2147483648 ≤ ρ 3 ∧ ρ 3 ≤ -1) ∧ (0 ≤ ρ 2 ∧ ρ 2 ≤ 2147483647)
    · exact ab_cs4 abR_c407_b (by decide) (by first | (rw [ab_onN]; omega) | (rw [ab_ngN]; omega)) (by first | (rw [ab_onN]; omega) | (rw [ab_ngN]; omega)) (by first | (rw [ab_onN]; omega) | (rw [ab_ngN]; omega)) (by first | (rw [ab_onN]; omega) | (rw [ab_ngN]; omega)) (by first | (rw [ab_onN]; omega) | (rw [ab_ngN]; omega)) (by first | (rw [ab_onN]; omega) | (rw [ab_ngN]; omega)) (by first | (rw [ab_onN]; omega) | (rw [ab_ngN]; omega)) (by first | (rw [ab_onN]; omega) | (rw [ab_ngN]; omega))
    exact abq_all hs e1 h8 (by omega) (by omega)
  by_cases c22 : ρ 1 < 409
  · exact ab_cs2 abR_c408 (by decide) (by first | (rw [ab_onN]; omega) | (rw [ab_ngN]; omega)) (by first | (rw [ab_onN]; omega) | (rw [ab_ngN]; omega)) (by first | (rw [ab_onN]; omega) | (rw [ab_ngN]; omega)) (by first | (rw [ab_onN]; omega) | (rw [ab_ngN]; omega))
  by_cases c23 : ρ 1 < 489
  · exact ab_seg (a := 409) (n := 80) h8 abS_409 (by omega) (by omega)
  by_cases c24 : ρ 1 < 504
  · exact ab_seg (a := 489) (n := 15) h8 abS_489 (by omega) (by omega)
  by_cases c25 : ρ 1 < 505
  · exact ab_cs2 abR_c504 (by decide) (by first | (rw [ab_onN]; omega) | (rw [ab_ngN]; omega)) (by first | (rw [ab_onN]; omega) | (rw [ab_ngN]; omega)) (by first | (rw [ab_onN]; omega) | (rw [ab_ngN]; omega)) (by first | (rw [ab_onN]; omega) | (rw [ab_ngN]; omega))
  by_cases c26 : ρ 1 < 506
  · exact ab_cs2 abR_c505 (by decide) (by first | (rw [ab_onN]; omega) | (rw [ab_ngN]; omega)) (by first | (rw [ab_onN]; omega) | (rw [ab_ngN]; omega)) (by first | (rw [ab_onN]; omega) | (rw [ab_ngN]; omega)) (by first | (rw [ab_onN]; omega) | (rw [ab_ngN]; omega))
  by_cases c27 : ρ 1 < 600
  · exact ab_seg (a := 506) (n := 94) h8 abS_506 (by omega) (by omega)
  by_cases c28 : ρ 1 < 601
  · exact ab_cs2 abR_c600 (by decide) (by first | (rw [ab_onN]; omega) | (rw [ab_ngN]; omega)) (by first | (rw [ab_onN]; omega) | (rw [ab_ngN]; omega)) (by first | (rw [ab_onN]; omega) | (rw [ab_ngN]; omega)) (by first | (rw [ab_onN]; omega) | (rw [ab_ngN]; omega))
  by_cases c29 : ρ 1 < 602
  · exact ab_cs2 abR_c601 (by decide) (by first | (rw [ab_onN]; omega) | (rw [ab_ngN]; omega)) (by first | (rw [ab_onN]; omega) | (rw [ab_ngN]; omega)) (by first | (rw [ab_onN]; omega) | (rw [ab_ngN]; omega)) (by first | (rw [ab_onN]; omega) | (rw [ab_ngN]; omega))
  by_cases c30 : ρ 1 < 603
  · exact ab_cs2 abR_c602 (by decide) (by first | (rw [ab_onN]; omega) | (rw [ab_ngN]; omega)) (by first | (rw [ab_onN]; omega) | (rw [ab_ngN]; omega)) (by first | (rw [ab_onN]; omega) | (rw [ab_ngN]; omega)) (by first | (rw [ab_onN]; omega) | (rw [ab_ngN]; omega))
  by_cases c31 : ρ 1 < 609
  · exact ab_seg (a := 603) (n := 6) h8 abS_603 (by omega) (by omega)
  by_cases c32 : ρ 1 < 610
  · exact ab_cs2 abR_c609 (by decide) (by first | (rw [ab_onN]; omega) | (rw [ab_ngN]; omega)) (by first | (rw [ab_onN]; omega) | (rw [ab_ngN]; omega)) (by first | (rw [ab_onN]; omega) | (rw [ab_ngN]; omega)) (by first | (rw [ab_onN]; omega) | (rw [ab_ngN]; omega))
  by_cases c33 : ρ 1 < 611
  · exact ab_cs2 abR_c610 (by decide) (by first | (rw [ab_onN]; omega) | (rw [ab_ngN]; omega)) (by first | (rw [ab_onN]; omega) | (rw [ab_ngN]; omega)) (by first | (rw [ab_onN]; omega) | (rw [ab_ngN]; omega)) (by first | (rw [ab_onN]; omega) | (rw [ab_ngN]; omega))
  by_cases c34 : ρ 1 < 612
  · exact Or.inr (Or.inl ⟨by omega, h8⟩)
  by_cases c35 : ρ 1 < 711
  · exact ab_seg (a := 612) (n := 99) h8 abS_612 (by omega) (by omega)
  by_cases c36 : ρ 1 < 803
  · exact ab_seg (a := 711) (n := 92) h8 abS_711 (by omega) (by omega)
  by_cases c37 : ρ 1 < 804
  · exact ab_cs2 abR_c803 (by decide) (by first | (rw [ab_onN]; omega) | (rw [ab_ngN]; omega)) (by first | (rw [ab_onN]; omega) | (rw [ab_ngN]; omega)) (by first | (rw [ab_onN]; omega) | (rw [ab_ngN]; omega)) (by first | (rw [ab_onN]; omega) | (rw [ab_ngN]; omega))
  by_cases c38 : ρ 1 < 808
  · exact ab_seg (a := 804) (n := 4) h8 abS_804 (by omega) (by omega)
  by_cases c39 : ρ 1 < 809
  · exact ab_cs2 abR_c808 (by decide) (by first | (rw [ab_onN]; omega) | (rw [ab_ngN]; omega)) (by first | (rw [ab_onN]; omega) | (rw [ab_ngN]; omega)) (by first | (rw [ab_onN]; omega) | (rw [ab_ngN]; omega)) (by first | (rw [ab_onN]; omega) | (rw [ab_ngN]; omega))
  by_cases c40 : ρ 1 < 817
  · exact ab_seg (a := 809) (n := 8) h8 abS_809 (by omega) (by omega)
  by_cases c41 : ρ 1 < 818
  · have e1 : ρ 1 = 817 := by omega
    by_cases d0 : (-2147483648 ≤ ρ 2 ∧ ρ 2 ≤ -1)
    · exact ab_cs3 abR_c817_l (by decide) (by first | (rw [ab_onN]; omega) | (rw [ab_ngN]; omega)) (by first | (rw [ab_onN]; omega) | (rw [ab_ngN]; omega)) (by first | (rw [ab_onN]; omega) | (rw [ab_ngN]; omega)) (by first | (rw [ab_onN]; omega) | (rw [ab_ngN]; omega)) (by first | (rw [ab_onN]; omega) | (rw [ab_ngN]; omega)) (by first | (rw [ab_onN]; omega) | (rw [ab_ngN]; omega))
    by_cases d1 : (8 ≤ ρ 2 ∧ ρ 2 ≤ 2147483647)
    · exact ab_cs3 abR_c817_h (by decide) (by first | (rw [ab_onN]; omega) | (rw [ab_ngN]; omega)) (by first | (rw [ab_onN]; omega) | (rw [ab_ngN]; omega)) (by first | (rw [ab_onN]; omega) | (rw [ab_ngN]; omega)) (by first | (rw [ab_onN]; omega) | (rw [ab_ngN]; omega)) (by first | (rw [ab_onN]; omega) | (rw [ab_ngN]; omega)) (by first | (rw [ab_onN]; omega) | (rw [ab_ngN]; omega))
    by_cases d2 : (0 ≤ ρ 2 ∧ ρ 2 ≤ 0)
    · exact ab_cs3 abR_c817_0 (by decide) (by first | (rw [ab_onN]; omega) | (rw [ab_ngN]; omega)) (by first | (rw [ab_onN]; omega) | (rw [ab_ngN]; omega)) (by first | (rw [ab_onN]; omega) | (rw [ab_ngN]; omega)) (by first | (rw [ab_onN]; omega) | (rw [ab_ngN]; omega)) (by first | (rw [ab_onN]; omega) | (rw [ab_ngN]; omega)) (by first | (rw [ab_onN]; omega) | (rw [ab_ngN]; omega))
    by_cases d3 : (1 ≤ ρ 2 ∧ ρ 2 ≤ 1)
    · exact ab_cs3 abR_c817_1 (by decide) (by first | (rw [ab_onN]; omega) | (rw [ab_ngN]; omega)) (by first | (rw [ab_onN]; omega) | (rw [ab_ngN]; omega)) (by first | (rw [ab_onN]; omega) | (rw [ab_ngN]; omega)) (by first | (rw [ab_onN]; omega) | (rw [ab_ngN]; omega)) (by first | (rw [ab_onN]; omega) | (rw [ab_ngN]; omega)) (by first | (rw [ab_onN]; omega) | (rw [ab_ngN]; omega))
    by_cases d4 : (2 ≤ ρ 2 ∧ ρ 2 ≤ 2)
    · exact ab_cs3 abR_c817_2 (by decide) (by first | (rw [ab_onN]; omega) | (rw [ab_ngN]; omega)) (by first | (rw [ab_onN]; omega) | (rw [ab_ngN]; omega)) (by first | (rw [ab_onN]; omega) | (rw [ab_ngN]; omega)) (by first | (rw [ab_onN]; omega) | (rw [ab_ngN]; omega)) (by first | (rw [ab_onN]; omega) | (rw [ab_ngN]; omega)) (by first | (rw [ab_onN]; omega) | (rw [ab_ngN]; omega))
    by_cases d5 : (3 ≤ ρ 2 ∧ ρ 2 ≤ 3)
    · exact ab_cs3 abR_c817_3 (by decide) (by first | (rw [ab_onN]; omega) | (rw [ab_ngN]; omega)) (by first | (rw [ab_onN]; omega) | (rw [ab_ngN]; omega)) (by first | (rw [ab_onN]; omega) | (rw [ab_ngN]; omega)) (by first | (rw [ab_onN]; omega) | (rw [ab_ngN]; omega)) (by first | (rw [ab_onN]; omega) | (rw [ab_ngN]; omega)) (by first | (rw [ab_onN]; omega) | (rw [ab_ngN]; omega))
    by_cases d6 : (4 ≤ ρ 2 ∧ ρ 2 ≤ 4)
    · exact ab_cs3 abR_c817_4 (by decide) (by first | (rw [ab_onN]; omega) | (rw [ab_ngN]; omega)) (by first | (rw [ab_onN]; omega) | (rw [ab_ngN]; omega)) (by first | (rw [ab_onN]; omega) | (rw [ab_ngN]; omega)) (by first | (rw [ab_onN]; omega) | (rw [ab_ngN]; omega)) (by first | (rw [ab_onN]; omega) | (rw [ab_ngN]; omega)) (by first | (rw [ab_onN]; omega) | (rw [ab_ngN]; omega))
    by_cases d7 : (5 ≤ ρ 2 ∧ ρ 2 ≤ 5)
    · exact ab_cs3 abR_c817_5 (by decide) (by first | (rw [ab_onN]; omega) | (rw [ab_ngN]; omega)) (by first | (rw [ab_onN]; omega) | (rw [ab_ngN]; omega)) (by first | (rw [ab_onN]; omega) | (rw [ab_ngN]; omega)) (by first | (rw [ab_onN]; omega) | (rw [ab_ngN]; omega)) (by first | (rw [ab_onN]; omega) | (rw [ab_ngN]; omega)) (by first | (rw [ab_onN]; omega) | (rw [ab_ngN]; omega))
    by_cases d8 : (6 ≤ ρ 2 ∧ ρ 2 ≤ 6)
    · exact ab_cs3 abR_c817_6 (by decide) (by first | (rw [ab_onN]; omega) | (rw [ab_ngN]; omega)) (by first | (rw [ab_onN]; omega) | (rw [ab_ngN]; omega)) (by first | (rw [ab_onN]; omega) | (rw [ab_ngN]; omega)) (by first | (rw [ab_onN]; omega) | (rw [ab_ngN]; omega)) (by first | (rw [ab_onN]; omega) | (rw [ab_ngN]; omega)) (by first | (rw [ab_onN]; omega) | (rw [ab_ngN]; omega))
    by_cases d9 : (7 ≤ ρ 2 ∧ ρ 2 ≤ 7)
    · exact ab_cs3 abR_c817_7 (by decide) (by first | (rw [ab_onN]; omega) | (rw [ab_ngN]; omega)) (by first | (rw [ab_onN]; omega) | (rw [ab_ngN]; omega)) (by first | (rw [ab_onN]; omega) | (rw [ab_ngN]; omega)) (by first | (rw [ab_onN]; omega) | (rw [ab_ngN]; omega)) (by first | (rw [ab_onN]; omega) | (rw [ab_ngN]; omega)) (by first | (rw [ab_onN]; omega) | (rw [ab_ngN]; omega))
    exfalso
    omega
  by_cases c42 : ρ 1 < 915
  · exact ab_seg (a := 818) (n := 97) h8 abS_818 (by omega) (by omega)
  by_cases c43 : ρ 1 < 1000
  · exact ab_seg (a := 915) (n := 85) h8 abS_915 (by omega) (by omega)
  exfalso
  omega
theorem ab_all_cs {ρ : Nat → Int} (hs : ab_Sat ρ abG40) : abCs ρ := by
  have v8 : (0 : Int) ≤ ρ 8 ∧ ρ 8 ≤ (15 : Int) := (hs.1 8 (.ofNat 0, .ofNat 15) rfl).2
  by_cases k0 : ρ 8 = 0
  · exact ab_all_act hs k0
  by_cases k1 : ρ 8 = 1
  · exact ab_cs1 abR_k1 (by decide) (by first | (rw [ab_onN]; omega) | (rw [ab_ngN]; omega)) (by first | (rw [ab_onN]; omega) | (rw [ab_ngN]; omega))
  by_cases k2 : ρ 8 = 2
  · exact ab_cs1 abR_k2 (by decide) (by first | (rw [ab_onN]; omega) | (rw [ab_ngN]; omega)) (by first | (rw [ab_onN]; omega) | (rw [ab_ngN]; omega))
  by_cases k3 : ρ 8 = 3
  · exact ab_cs1 abR_k3 (by decide) (by first | (rw [ab_onN]; omega) | (rw [ab_ngN]; omega)) (by first | (rw [ab_onN]; omega) | (rw [ab_ngN]; omega))
  by_cases k4 : ρ 8 = 4
  · exact ab_cs1 abR_k4 (by decide) (by first | (rw [ab_onN]; omega) | (rw [ab_ngN]; omega)) (by first | (rw [ab_onN]; omega) | (rw [ab_ngN]; omega))
  by_cases k5 : ρ 8 = 5
  · exact ab_cs1 abR_k5 (by decide) (by first | (rw [ab_onN]; omega) | (rw [ab_ngN]; omega)) (by first | (rw [ab_onN]; omega) | (rw [ab_ngN]; omega))
  by_cases k6 : ρ 8 = 6
  · exact ab_cs1 abR_k6 (by decide) (by first | (rw [ab_onN]; omega) | (rw [ab_ngN]; omega)) (by first | (rw [ab_onN]; omega) | (rw [ab_ngN]; omega))
  by_cases k7 : ρ 8 = 7
  · exact ab_cs1 abR_k7 (by decide) (by first | (rw [ab_onN]; omega) | (rw [ab_ngN]; omega)) (by first | (rw [ab_onN]; omega) | (rw [ab_ngN]; omega))
  by_cases k8 : ρ 8 = 8
  · exact ab_cs1 abR_k8 (by decide) (by first | (rw [ab_onN]; omega) | (rw [ab_ngN]; omega)) (by first | (rw [ab_onN]; omega) | (rw [ab_ngN]; omega))
  by_cases k9 : ρ 8 = 9
  · exact ab_cs1 abR_k9 (by decide) (by first | (rw [ab_onN]; omega) | (rw [ab_ngN]; omega)) (by first | (rw [ab_onN]; omega) | (rw [ab_ngN]; omega))
  by_cases k10 : ρ 8 = 10
  · exact ab_cs1 abR_k10 (by decide) (by first | (rw [ab_onN]; omega) | (rw [ab_ngN]; omega)) (by first | (rw [ab_onN]; omega) | (rw [ab_ngN]; omega))
  by_cases k11 : ρ 8 = 11
  · exact ab_cs1 abR_k11 (by decide) (by first | (rw [ab_onN]; omega) | (rw [ab_ngN]; omega)) (by first | (rw [ab_onN]; omega) | (rw [ab_ngN]; omega))
  by_cases k12 : ρ 8 = 12
  · exact ab_cs1 abR_k12 (by decide) (by first | (rw [ab_onN]; omega) | (rw [ab_ngN]; omega)) (by first | (rw [ab_onN]; omega) | (rw [ab_ngN]; omega))
  by_cases k13 : ρ 8 = 13
  · exact ab_cs1 abR_k13 (by decide) (by first | (rw [ab_onN]; omega) | (rw [ab_ngN]; omega)) (by first | (rw [ab_onN]; omega) | (rw [ab_ngN]; omega))
  by_cases k14 : ρ 8 = 14
  · exact ab_cs1 abR_k14 (by decide) (by first | (rw [ab_onN]; omega) | (rw [ab_ngN]; omega)) (by first | (rw [ab_onN]; omega) | (rw [ab_ngN]; omega))
  by_cases k15 : ρ 8 = 15
  · exact ab_cs1 abR_k15 (by decide) (by first | (rw [ab_onN]; omega) | (rw [ab_ngN]; omega)) (by first | (rw [ab_onN]; omega) | (rw [ab_ngN]; omega))
  exfalso
  omega
