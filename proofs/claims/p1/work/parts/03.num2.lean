/-! NUMBERS, the second part: what answers lie between. -/
theorem ab_and32 (a b : Int32) (h : 0 ≤ b.toInt) : 0 ≤ (a &&& b).toInt ∧ (a &&& b).toInt ≤ b.toInt := by
  have hb : b.toBitVec.msb = false := by
    rw [BitVec.msb_eq_toInt]; simpa using h
  have e : (a &&& b).toInt = ((a.toBitVec &&& b.toBitVec).toNat : Int) := by
    show (a.toBitVec &&& b.toBitVec).toInt = _
    exact BitVec.toInt_eq_toNat_of_msb (by rw [BitVec.msb_and, hb, Bool.and_false])
  have e2 : b.toInt = (b.toBitVec.toNat : Int) := BitVec.toInt_eq_toNat_of_msb hb
  rw [e, e2]
  refine ⟨Int.natCast_nonneg _, ?_⟩
  rw [BitVec.toNat_and]
  exact Int.ofNat_le.mpr Nat.and_le_right
theorem ab_and64 (a b : Int64) (h : 0 ≤ b.toInt) : 0 ≤ (a &&& b).toInt ∧ (a &&& b).toInt ≤ b.toInt := by
  have hb : b.toBitVec.msb = false := by
    rw [BitVec.msb_eq_toInt]; simpa using h
  have e : (a &&& b).toInt = ((a.toBitVec &&& b.toBitVec).toNat : Int) := by
    show (a.toBitVec &&& b.toBitVec).toInt = _
    exact BitVec.toInt_eq_toNat_of_msb (by rw [BitVec.msb_and, hb, Bool.and_false])
  have e2 : b.toInt = (b.toBitVec.toNat : Int) := BitVec.toInt_eq_toNat_of_msb hb
  rw [e, e2]
  refine ⟨Int.natCast_nonneg _, ?_⟩
  rw [BitVec.toNat_and]
  exact Int.ofNat_le.mpr Nat.and_le_right
theorem ab_xor32 (a b : Int32) (h : 0 ≤ a.toInt) (h2 : 0 ≤ b.toInt) : 0 ≤ (a ^^^ b).toInt := by
  have ha : a.toBitVec.msb = false := by
    rw [BitVec.msb_eq_toInt]; simpa using h
  have hb : b.toBitVec.msb = false := by
    rw [BitVec.msb_eq_toInt]; simpa using h2
  show 0 ≤ (a.toBitVec ^^^ b.toBitVec).toInt
  rw [BitVec.toInt_eq_toNat_of_msb (by rw [BitVec.msb_xor, ha, hb]; rfl)]
  exact Int.natCast_nonneg _
theorem ab_xor64 (a b : Int64) (h : 0 ≤ a.toInt) (h2 : 0 ≤ b.toInt) : 0 ≤ (a ^^^ b).toInt := by
  have ha : a.toBitVec.msb = false := by
    rw [BitVec.msb_eq_toInt]; simpa using h
  have hb : b.toBitVec.msb = false := by
    rw [BitVec.msb_eq_toInt]; simpa using h2
  show 0 ≤ (a.toBitVec ^^^ b.toBitVec).toInt
  rw [BitVec.toInt_eq_toNat_of_msb (by rw [BitVec.msb_xor, ha, hb]; rfl)]
  exact Int.natCast_nonneg _
theorem ab_shr0 (z : Int) (n : Nat) (h : 0 ≤ z) : 0 ≤ z >>> n ∧ z >>> n ≤ z := by
  obtain ⟨m, rfl⟩ := Int.eq_ofNat_of_zero_le h
  have e : ((m : Int) >>> n) = ((m >>> n : Nat) : Int) := rfl
  rw [e]
  refine ⟨Int.natCast_nonneg _, Int.ofNat_le.mpr ?_⟩
  rw [Nat.shiftRight_eq_div_pow]
  exact Nat.div_le_self _ _
theorem ab_shr32 (a b : Int32) (h : 0 ≤ a.toInt) : 0 ≤ (a >>> b).toInt ∧ (a >>> b).toInt ≤ a.toInt := by
  have e : (a >>> b).toInt = a.toInt >>> (b.toBitVec.smod 32).toNat := by
    show (a.toBitVec.sshiftRight' (b.toBitVec.smod 32)).toInt = _
    rw [BitVec.sshiftRight_eq', BitVec.toInt_sshiftRight]; rfl
  rw [e]
  exact ab_shr0 _ _ h
theorem ab_shr64 (a b : Int64) (h : 0 ≤ a.toInt) : 0 ≤ (a >>> b).toInt ∧ (a >>> b).toInt ≤ a.toInt := by
  have e : (a >>> b).toInt = a.toInt >>> (b.toBitVec.smod 64).toNat := by
    show (a.toBitVec.sshiftRight' (b.toBitVec.smod 64)).toInt = _
    rw [BitVec.sshiftRight_eq', BitVec.toInt_sshiftRight]; rfl
  rw [e]
  exact ab_shr0 _ _ h
theorem ab_td_mono {a b c : Int} (hc : 1 ≤ c) (h : a ≤ b) : a.tdiv c ≤ b.tdiv c := by
  rcases Int.le_total 0 a with ha | ha
  · rw [Int.tdiv_eq_ediv_of_nonneg ha, Int.tdiv_eq_ediv_of_nonneg (Int.le_trans ha h)]
    exact Int.ediv_le_ediv (by omega) h
  · rcases Int.le_total 0 b with hb | hb
    · have h1 : a.tdiv c ≤ 0 := by
        have := Int.tdiv_nonneg (show 0 ≤ -a by omega) (show 0 ≤ c by omega)
        rw [Int.neg_tdiv] at this
        omega
      have h2 := Int.tdiv_nonneg hb (show 0 ≤ c by omega)
      omega
    · have e1 : a.tdiv c = -((-a).tdiv c) := by rw [Int.neg_tdiv]; omega
      have e2 : b.tdiv c = -((-b).tdiv c) := by rw [Int.neg_tdiv]; omega
      rw [e1, e2, Int.tdiv_eq_ediv_of_nonneg (show 0 ≤ -a by omega), Int.tdiv_eq_ediv_of_nonneg (show 0 ≤ -b by omega)]
      have := Int.ediv_le_ediv (show 0 < c by omega) (show -b ≤ -a by omega)
      omega
theorem ab_td_pos {a c : Int} (hc : 1 ≤ c) : min a 0 ≤ a.tdiv c ∧ a.tdiv c ≤ max a 0 := by
  rcases Int.le_total 0 a with ha | ha
  · have h1 := Int.tdiv_nonneg ha (show 0 ≤ c by omega)
    have h2 : a.tdiv c ≤ a := by
      rw [Int.tdiv_eq_ediv_of_nonneg ha]
      exact Int.ediv_le_self c ha
    omega
  · have h1 := Int.tdiv_nonneg (show 0 ≤ -a by omega) (show 0 ≤ c by omega)
    have h2 : (-a).tdiv c ≤ -a := by
      rw [Int.tdiv_eq_ediv_of_nonneg (show 0 ≤ -a by omega)]
      exact Int.ediv_le_self c (by omega)
    rw [Int.neg_tdiv] at h1 h2
    omega
theorem ab_tm_pos {a b : Int} (hb : 1 ≤ b) : 1 - b ≤ a.tmod b ∧ a.tmod b ≤ b - 1 ∧ (0 ≤ a → 0 ≤ a.tmod b) := by
  have h1 := Int.tmod_lt_of_pos a (show 0 < b by omega)
  have h2 := Int.tmod_lt_of_pos (-a) (show 0 < b by omega)
  rw [Int.neg_tmod] at h2
  exact ⟨by omega, by omega, fun h => Int.tmod_nonneg b h⟩
theorem ab_z_and {k : Nat} {x y : Int} (hx : ab_R k x) (hy : ab_R k y) : (0 ≤ y → 0 ≤ ab_opZ k 5 x y ∧ ab_opZ k 5 x y ≤ y) ∧ (0 ≤ x → 0 ≤ ab_opZ k 5 x y ∧ ab_opZ k 5 x y ≤ x) := by
  unfold ab_opZ
  cases hk : Nat.beq k 0
  · have a1 := hx.1; have a2 := hx.2; have b1 := hy.1; have b2 := hy.2
    rw [ab_loS hk] at a1 b1; rw [ab_hiS hk] at a2 b2
    have ex := ab_t64 a1 a2
    have ey := ab_t64 b1 b2
    show (0 ≤ y → 0 ≤ (Int64.ofInt x &&& Int64.ofInt y).toInt ∧ (Int64.ofInt x &&& Int64.ofInt y).toInt ≤ y) ∧ (0 ≤ x → 0 ≤ (Int64.ofInt x &&& Int64.ofInt y).toInt ∧ (Int64.ofInt x &&& Int64.ofInt y).toInt ≤ x)
    refine ⟨fun h => ?_, fun h => ?_⟩
    · have := ab_and64 (Int64.ofInt x) (Int64.ofInt y) (by rw [ey]; exact h)
      rw [ey] at this; exact this
    · have := ab_and64 (Int64.ofInt y) (Int64.ofInt x) (by rw [ex]; exact h)
      rw [ex, Int64.and_comm] at this; exact this
  · cases ab_k0 hk
    have ex := ab_t32 hx
    have ey := ab_t32 hy
    show (0 ≤ y → 0 ≤ (Int32.ofInt x &&& Int32.ofInt y).toInt ∧ (Int32.ofInt x &&& Int32.ofInt y).toInt ≤ y) ∧ (0 ≤ x → 0 ≤ (Int32.ofInt x &&& Int32.ofInt y).toInt ∧ (Int32.ofInt x &&& Int32.ofInt y).toInt ≤ x)
    refine ⟨fun h => ?_, fun h => ?_⟩
    · have := ab_and32 (Int32.ofInt x) (Int32.ofInt y) (by rw [ey]; exact h)
      rw [ey] at this; exact this
    · have := ab_and32 (Int32.ofInt y) (Int32.ofInt x) (by rw [ex]; exact h)
      rw [ex, Int32.and_comm] at this; exact this
theorem ab_z_xor {k : Nat} {x y : Int} (hx : ab_R k x) (hy : ab_R k y) (h0 : 0 ≤ x) (h1 : 0 ≤ y) : 0 ≤ ab_opZ k 7 x y := by
  unfold ab_opZ
  cases hk : Nat.beq k 0
  · have a1 := hx.1; have a2 := hx.2; have b1 := hy.1; have b2 := hy.2
    rw [ab_loS hk] at a1 b1; rw [ab_hiS hk] at a2 b2
    exact ab_xor64 _ _ (by rw [ab_t64 a1 a2]; exact h0) (by rw [ab_t64 b1 b2]; exact h1)
  · cases ab_k0 hk
    exact ab_xor32 _ _ (by rw [ab_t32 hx]; exact h0) (by rw [ab_t32 hy]; exact h1)
theorem ab_z_shr {k : Nat} {x y : Int} (hx : ab_R k x) (h0 : 0 ≤ x) : 0 ≤ ab_opZ k 9 x y ∧ ab_opZ k 9 x y ≤ x := by
  unfold ab_opZ
  cases hk : Nat.beq k 0
  · have a1 := hx.1; have a2 := hx.2
    rw [ab_loS hk] at a1; rw [ab_hiS hk] at a2
    have ex := ab_t64 a1 a2
    have := ab_shr64 (Int64.ofInt x) (Int64.ofInt y &&& 63) (by rw [ex]; exact h0)
    rw [ex] at this
    exact this
  · cases ab_k0 hk
    have ex := ab_t32 hx
    have := ab_shr32 (Int32.ofInt x) (Int32.ofInt y &&& 31) (by rw [ex]; exact h0)
    rw [ex] at this
    exact this
