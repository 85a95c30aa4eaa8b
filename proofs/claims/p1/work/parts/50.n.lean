/-! CALL 407: the leaves one by one. -/
noncomputable def abqX (c1 c2 : Int) (G : ab_G) (f : ab_S → ab_G → Bool) : Bool := ab_ar 1 2 G (.inr 3) (.inl c1) (fun s G => ab_ar 1 2 G s (.inl c2) (fun s G => ab_ar 1 3 G s (.inl (.ofNat 100)) f))
noncomputable def abqZ (ρ : Nat → Int) (c1 c2 : Int) : Int := ab_opZ 1 3 (ab_opZ 1 2 (ab_opZ 1 2 (ρ 3) c1) c2) (.ofNat 100)
noncomputable def abqR (a b : Nat) (run : ab_G → Bool) (l : List (Int × Int)) (i : Nat) (G : ab_G) : Bool := List.rec (motive := fun _ => Nat → ab_G → Bool) (fun _ G => run G) (fun p _ r i G => abqX p.1 p.2 G (fun s G => ab_br 3 s (.inr 2) G (fun t G => bif t then (bif Nat.ble a i then run G else true) else (bif Nat.beq (i + 1) b then true else r (i + 1) G)))) l i G
noncomputable def abqK (ρ : Nat → Int) (l : List (Int × Int)) : Nat := List.rec 0 (fun p _ r => if ρ 2 ≤ abqZ ρ p.1 p.2 then 0 else r + 1) l
theorem abqK_cons (ρ : Nat → Int) (p : Int × Int) (l : List (Int × Int)) : abqK ρ (p :: l) = if ρ 2 ≤ abqZ ρ p.1 p.2 then 0 else abqK ρ l + 1 := rfl
theorem abq100 : ab_R 1 (.ofNat 100) := by
  unfold ab_R
  rw [show ab_lo 1 = (-9223372036854775808 : Int) from rfl, show ab_hi 1 = (9223372036854775807 : Int) from rfl]
  decide
theorem abqK_ext {ρ ρ' : Nat → Int} (h2 : ρ' 2 = ρ 2) (h3 : ρ' 3 = ρ 3) : ∀ l, abqK ρ' l = abqK ρ l
  | [] => rfl
  | p :: l => by
    rw [abqK_cons, abqK_cons, abqK_ext h2 h3 l]
    unfold abqZ
    rw [h2, h3]
theorem abqK_le (ρ : Nat → Int) : ∀ l, abqK ρ l ≤ l.length
  | [] => Nat.le_refl _
  | p :: l => by
    rw [abqK_cons]
    have h := abqK_le ρ l
    split
    · exact Nat.zero_le _
    · show abqK ρ l + 1 ≤ l.length + 1
      omega
theorem abqX_ok {ρ : Nat → Int} {G : ab_G} (hs : ab_Sat ρ G) (h9 : 9 ≤ G.1) (h3 : ab_R 1 (ρ 3)) {c1 c2 : Int} (hc1 : ab_R 1 c1) (hc2 : ab_R 1 c2) {f : ab_S → ab_G → Bool} (h : abqX c1 c2 G f = true) : ab_Y G ρ f (abqZ ρ c1 c2) := by
  obtain ⟨-, s1, G1, r1, x1, x2, x3, x4, x5⟩ := ab_ar_ok hs (a := .inr 3) (b := .inl c1) (show 3 < G.1 by omega) trivial h3 hc1 h
  have e1 : ab_sv r1 s1 = ab_opZ 1 2 (ρ 3) c1 := x5
  obtain ⟨-, s2, G2, r2, y1, y2, y3, y4, y5⟩ := ab_ar_ok x3 (b := .inl c2) x4 trivial (by rw [e1]; exact ab_opR _ _ _ _) hc2 x1
  have e2 : ab_sv r2 s2 = ab_opZ 1 2 (ab_opZ 1 2 (ρ 3) c1) c2 := by rw [y5, e1]; rfl
  obtain ⟨-, s3, G3, r3, z1, z2, z3, z4, z5⟩ := ab_ar_ok y3 (b := .inl (.ofNat 100)) y4 trivial (by rw [e2]; exact ab_opR _ _ _ _) abq100 y1
  exact ⟨s3, G3, r3, z1, (x2.tr y2).tr z2, z3, z4, by rw [z5, e2]; rfl⟩
theorem abqR_ok {a b : Nat} {run : ab_G → Bool} : ∀ (l : List (Int × Int)) (i : Nat) {G : ab_G} {ρ : Nat → Int}, (∀ p ∈ l, ab_R 1 p.1 ∧ ab_R 1 p.2) → ab_Sat ρ G → 9 ≤ G.1 → ab_R 1 (ρ 3) → a ≤ i + abqK ρ l → i + abqK ρ l < b → abqR a b run l i G = true →
    ∃ (G' : ab_G) (ρ' : Nat → Int), ab_Ext G.1 ρ G'.1 ρ' ∧ ab_Sat ρ' G' ∧ run G' = true
  | [], i, G, ρ, _, hs, _, _, _, _, h => ⟨G, ρ, ab_Ext.rf _ _, hs, h⟩
  | p :: l, i, G, ρ, hl, hs, h9, h3, ha, hb, h => by
    obtain ⟨p1, p2⟩ := hl p List.mem_cons_self
    obtain ⟨s, G1, r1, x1, x2, x3, x4, x5⟩ := abqX_ok hs h9 h3 p1 p2 h
    have hn := x2.1
    obtain ⟨G2, w1, w2, w3⟩ := ab_br_ok x3 (c := 3) (by decide) x4 (b := .inr 2) (show 2 < G1.1 by omega) x1
    have eh : ab_hold 3 (ab_sv r1 s) (ab_sv r1 (.inr 2)) = ab_le (ρ 2) (abqZ ρ p.1 p.2) := by
      rw [x5]
      show ab_le (r1 2) _ = _
      rw [x2.2 2 (by omega)]
    have w4 : (bif ab_le (ρ 2) (abqZ ρ p.1 p.2) then (bif Nat.ble a i then run G2 else true) else (bif Nat.beq (i + 1) b then true else abqR a b run l (i + 1) G2)) = true := by
      rw [← eh]
      exact w1
    have x6 : ab_Ext G.1 ρ G2.1 r1 := by rw [w3]; exact x2
    by_cases hk : ρ 2 ≤ abqZ ρ p.1 p.2
    · have e6 : abqK ρ (p :: l) = 0 := by rw [abqK_cons, if_pos hk]
      rw [(ab_le_iff _ _).mpr hk] at w4
      have w5 : (bif Nat.ble a i then run G2 else true) = true := w4
      rw [Nat.ble_eq_true_of_le (show a ≤ i by omega)] at w5
      exact ⟨G2, r1, x6, w2, w5⟩
    · have e6 : abqK ρ (p :: l) = abqK ρ l + 1 := by rw [abqK_cons, if_neg hk]
      have e7 : ab_le (ρ 2) (abqZ ρ p.1 p.2) = false := by
        cases hc : ab_le (ρ 2) (abqZ ρ p.1 p.2)
        · rfl
        · exact absurd ((ab_le_iff _ _).mp hc) hk
      rw [e7] at w4
      have w5 : (bif Nat.beq (i + 1) b then true else abqR a b run l (i + 1) G2) = true := w4
      have hb' : Nat.beq (i + 1) b = false := by
        cases hc : Nat.beq (i + 1) b
        · rfl
        · have := ab_beq hc
          omega
      rw [hb'] at w5
      have q2 : r1 2 = ρ 2 := x2.2 2 (by omega)
      have q3 : r1 3 = ρ 3 := x2.2 3 (by omega)
      have qK := abqK_ext q2 q3 l
      obtain ⟨G', ρ', g1, g2, g3⟩ := abqR_ok l (i + 1) (fun q hq => hl q (List.mem_cons_of_mem _ hq)) w2 (by omega) (by rw [q3]; exact h3) (by rw [qK]; omega) (by rw [qK]; omega) w5
      exact ⟨G', ρ', x6.tr g1, g2, g3⟩
def abq_l : List (Int × Int) := [(.ofNat 1, .ofNat 100), (.ofNat 2, .ofNat 98), (.ofNat 3, .ofNat 96), (.ofNat 4, .ofNat 94), (.ofNat 5, .ofNat 92), (.ofNat 6, .ofNat 90), (.ofNat 7, .ofNat 88), (.ofNat 8, .ofNat 86), (.ofNat 9, .ofNat 84), (.ofNat 10, .ofNat 82), (.ofNat 11, .ofNat 80), (.ofNat 12, .ofNat 78), (.ofNat 13, .ofNat 76), (.ofNat 14, .ofNat 74), (.ofNat 15, .ofNat 72), (.ofNat 16, .ofNat 70), (.ofNat 17, .ofNat 68), (.ofNat 18, .ofNat 66), (.ofNat 19, .ofNat 64), (.ofNat 20, .ofNat 62), (.ofNat 21, .ofNat 60), (.ofNat 22, .ofNat 58), (.ofNat 23, .ofNat 56), (.ofNat 24, .ofNat 54), (.ofNat 25, .ofNat 52), (.ofNat 26, .ofNat 50), (.ofNat 27, .ofNat 50), (.ofNat 28, .ofNat 50), (.ofNat 29, .ofNat 50), (.ofNat 30, .ofNat 50), (.ofNat 31, .ofNat 50), (.ofNat 32, .ofNat 50), (.ofNat 33, .ofNat 50), (.ofNat 34, .ofNat 50), (.ofNat 35, .ofNat 50), (.ofNat 36, .ofNat 50), (.ofNat 37, .ofNat 50), (.ofNat 38, .ofNat 50), (.ofNat 39, .ofNat 50), (.ofNat 40, .ofNat 50), (.ofNat 41, .ofNat 50), (.ofNat 42, .ofNat 50), (.ofNat 43, .ofNat 50), (.ofNat 44, .ofNat 50), (.ofNat 45, .ofNat 50), (.ofNat 46, .ofNat 50), (.ofNat 47, .ofNat 50), (.ofNat 48, .ofNat 50), (.ofNat 49, .ofNat 50), (.ofNat 50, .ofNat 50), (.ofNat 51, .ofNat 50), (.ofNat 52, .ofNat 50), (.ofNat 53, .ofNat 50), (.ofNat 54, .ofNat 50), (.ofNat 55, .ofNat 50), (.ofNat 56, .ofNat 50), (.ofNat 57, .ofNat 50), (.ofNat 58, .ofNat 50), (.ofNat 59, .ofNat 50), (.ofNat 60, .ofNat 50), (.ofNat 61, .ofNat 50), (.ofNat 62, .ofNat 50), (.ofNat 63, .ofNat 50), (.ofNat 64, .ofNat 50), (.ofNat 65, .ofNat 50), (.ofNat 66, .ofNat 50), (.ofNat 67, .ofNat 50), (.ofNat 68, .ofNat 50), (.ofNat 69, .ofNat 50), (.ofNat 70, .ofNat 50), (.ofNat 71, .ofNat 50), (.ofNat 72, .ofNat 50), (.ofNat 73, .ofNat 50), (.ofNat 74, .ofNat 50), (.ofNat 75, .ofNat 50), (.ofNat 76, .ofNat 50), (.ofNat 77, .ofNat 50), (.ofNat 78, .ofNat 50), (.ofNat 79, .ofNat 50), (.ofNat 80, .ofNat 50), (.ofNat 81, .ofNat 50), (.ofNat 82, .ofNat 50), (.ofNat 83, .ofNat 50), (.ofNat 84, .ofNat 50), (.ofNat 85, .ofNat 50), (.ofNat 86, .ofNat 50), (.ofNat 87, .ofNat 50), (.ofNat 88, .ofNat 50), (.ofNat 89, .ofNat 50), (.ofNat 90, .ofNat 50), (.ofNat 91, .ofNat 50), (.ofNat 92, .ofNat 50), (.ofNat 93, .ofNat 50), (.ofNat 94, .ofNat 50), (.ofNat 95, .ofNat 50), (.ofNat 96, .ofNat 50), (.ofNat 97, .ofNat 50), (.ofNat 98, .ofNat 50), (.ofNat 99, .ofNat 50), (.ofNat 100, .ofNat 50)]
theorem abq_lc : abq_l.all (fun p => (decide (ab_lo 1 ≤ p.1) && decide (p.1 ≤ ab_hi 1)) && (decide (ab_lo 1 ≤ p.2) && decide (p.2 ≤ ab_hi 1))) = true := by decide +kernel
theorem abq_lr : ∀ p ∈ abq_l, ab_R 1 p.1 ∧ ab_R 1 p.2 := fun p hp => by
  have h := List.all_eq_true.mp abq_lc p hp
  rw [Bool.and_eq_true, Bool.and_eq_true, Bool.and_eq_true] at h
  exact ⟨⟨of_decide_eq_true h.1.1, of_decide_eq_true h.1.2⟩, ⟨of_decide_eq_true h.2.1, of_decide_eq_true h.2.2⟩⟩
noncomputable def abqS : ab_G := abGs [(3, .ofNat 0, .ofNat 2147483647), (2, .ofNat 0, .ofNat 2147483647), (1, .ofNat 407, .ofNat 407), (8, .ofNat 0, .ofNat 0)]
/-- the place of the first number that is enough -/
theorem abq_go {ρ : Nat → Int} (hs : ab_Sat ρ abG40) (e1 : ρ 1 = 407) (h8 : ρ 8 = 0) (h2 : 0 ≤ ρ 2) (h3 : 0 ≤ ρ 3) {a b : Nat} (h : abqR a b abGoG abq_l 0 abqS = true) (ha : a ≤ abqK ρ abq_l) (hb : abqK ρ abq_l < b) : abCs ρ := by
  have v2 : (-2147483648 : Int) ≤ ρ 2 ∧ ρ 2 ≤ (2147483647 : Int) := (hs.1 2 (-2147483648, 2147483647) rfl).2
  have v3 : (-2147483648 : Int) ≤ ρ 3 ∧ ρ 3 ≤ (2147483647 : Int) := (hs.1 3 (-2147483648, 2147483647) rfl).2
  obtain ⟨g1, g2⟩ := abGs_ok hs [(3, .ofNat 0, .ofNat 2147483647), (2, .ofNat 0, .ofNat 2147483647), (1, .ofNat 407, .ofNat 407), (8, .ofNat 0, .ofNat 0)] (fun q hq => by
    rcases List.mem_cons.mp hq with rfl | hq
    · exact ⟨(show (3 : Nat) < 9 by decide), h3, v3.2⟩
    rcases List.mem_cons.mp hq with rfl | hq
    · exact ⟨(show (2 : Nat) < 9 by decide), h2, v2.2⟩
    rcases List.mem_cons.mp hq with rfl | hq
    · exact ⟨(show (1 : Nat) < 9 by decide), Int.le_of_eq e1.symm, Int.le_of_eq e1⟩
    rcases List.mem_cons.mp hq with rfl | hq
    · exact ⟨(show (8 : Nat) < 9 by decide), Int.le_of_eq h8.symm, Int.le_of_eq h8⟩
    cases hq)
  have r3 : ab_R 1 (ρ 3) := by
    unfold ab_R
    rw [show ab_lo 1 = (-9223372036854775808 : Int) from rfl, show ab_hi 1 = (9223372036854775807 : Int) from rfl]
    omega
  obtain ⟨G', ρ', q1, q2, q3⟩ := abqR_ok abq_l 0 abq_lr g1 (Nat.le_of_eq g2.symm) r3 (by omega) (by omega) h
  rw [g2] at q1
  exact Or.inr (Or.inr ⟨G', ρ', q1, q2, q3⟩)
