/-! NUMBERS of the walker. -/
theorem ab_le_iff (a b : Int) : ab_le a b = true ↔ a ≤ b := by
  cases a <;> cases b <;> simp [ab_le] <;> omega
theorem ab_eq_iff (a b : Int) : ab_eq a b = true ↔ a = b := by
  cases a <;> cases b <;> simp [ab_eq] <;> omega
theorem ab_min_eq (a b : Int) : ab_min a b = min a b := by
  unfold ab_min
  cases h : ab_le a b
  · have h2 : ¬ a ≤ b := fun q => by rw [(ab_le_iff a b).mpr q] at h; cases h
    simp only [cond_false]; omega
  · have h2 := (ab_le_iff a b).mp h
    simp only [cond_true]; omega
theorem ab_max_eq (a b : Int) : ab_max a b = max a b := by
  unfold ab_max
  cases h : ab_le a b
  · have h2 : ¬ a ≤ b := fun q => by rw [(ab_le_iff a b).mpr q] at h; cases h
    simp only [cond_false]; omega
  · have h2 := (ab_le_iff a b).mp h
    simp only [cond_true]; omega
/-- both, of a choice whose other way is false -/
theorem ab_an {c x : Bool} (h : (bif c then x else false) = true) : c = true ∧ x = true := by
  cases c
  · cases h
  · exact ⟨rfl, h⟩
theorem ab_or {c x : Bool} (h : (bif c then true else x) = true) : c = true ∨ x = true := by
  cases c
  · exact Or.inr h
  · exact Or.inl rfl
theorem ab_if {c x y : Bool} (h : (bif c then x else y) = true) : (c = true ∧ x = true) ∨ (c = false ∧ y = true) := by
  cases c
  · exact Or.inr ⟨rfl, h⟩
  · exact Or.inl ⟨rfl, h⟩
theorem ab_nle {a b : Int} (h : ab_le a b = false) : b < a := by
  have h2 : ¬ a ≤ b := fun q => by rw [(ab_le_iff a b).mpr q] at h; cases h
  omega
theorem ab_neq {a b : Int} (h : ab_eq a b = false) : a ≠ b := fun q => by rw [(ab_eq_iff a b).mpr q] at h; cases h
theorem ab_beq {a b : Nat} (h : Nat.beq a b = true) : a = b := Nat.eq_of_beq_eq_true h
theorem ab_ble {a b : Nat} (h : Nat.ble a b = true) : a ≤ b := Nat.le_of_ble_eq_true h
/-- in range -/
def ab_R (k : Nat) (z : Int) : Prop := ab_lo k ≤ z ∧ z ≤ ab_hi k
theorem ab_inR_iff (k : Nat) (p q : Int) (h : ab_inR k p q = true) : ab_lo k ≤ p ∧ q ≤ ab_hi k := by
  obtain ⟨h1, h2⟩ := ab_an h
  exact ⟨(ab_le_iff _ _).mp h1, (ab_le_iff _ _).mp h2⟩
theorem ab_lo0 : ab_lo 0 = -2147483648 := rfl
theorem ab_hi0 : ab_hi 0 = 2147483647 := rfl
theorem ab_loS {k : Nat} (h : Nat.beq k 0 = false) : ab_lo k = -9223372036854775808 := by unfold ab_lo; rw [h]; rfl
theorem ab_hiS {k : Nat} (h : Nat.beq k 0 = false) : ab_hi k = 9223372036854775807 := by unfold ab_hi; rw [h]; rfl
theorem ab_k0 {k : Nat} (h : Nat.beq k 0 = true) : k = 0 := Nat.eq_of_beq_eq_true h
theorem ab_t32 {z : Int} (h : ab_R 0 z) : (Int32.ofInt z).toInt = z := Int32.toInt_ofInt_of_le (by have := h.1; rw [ab_lo0] at this; omega) (by have := h.2; rw [ab_hi0] at this; omega)
theorem ab_t64 {z : Int} (h : -9223372036854775808 ≤ z) (h2 : z ≤ 9223372036854775807) : (Int64.ofInt z).toInt = z := Int64.toInt_ofInt_of_le (by omega) (by omega)
theorem ab_R32 (x : Int32) : ab_R 0 x.toInt := by
  have h1 := Int32.le_toInt x
  have h2 := Int32.toInt_lt x
  exact ⟨by rw [ab_lo0]; omega, by rw [ab_hi0]; omega⟩
theorem ab_R64 {k : Nat} (hk : Nat.beq k 0 = false) (x : Int64) : ab_R k x.toInt := by
  have h1 := Int64.le_toInt x
  have h2 := Int64.toInt_lt x
  exact ⟨by rw [ab_loS hk]; omega, by rw [ab_hiS hk]; omega⟩
theorem ab_opR (k op : Nat) (x y : Int) : ab_R k (ab_opZ k op x y) := by
  unfold ab_opZ
  cases hk : Nat.beq k 0
  · exact ab_R64 hk _
  · cases ab_k0 hk
    exact ab_R32 _
theorem ab_bm32 {z : Int} (h : ab_R 0 z) : z.bmod (2 ^ 32) = z := by
  have h1 := h.1; have h2 := h.2
  rw [ab_lo0] at h1; rw [ab_hi0] at h2
  exact Int.bmod_eq_of_le (by omega) (by omega)
theorem ab_bm64 {z : Int} (h1 : -9223372036854775808 ≤ z) (h2 : z ≤ 9223372036854775807) : z.bmod (2 ^ 64) = z := Int.bmod_eq_of_le (by omega) (by omega)
/-- what an exact answer becomes -/
def ab_wr (k : Nat) (z : Int) : Int := bif Nat.beq k 0 then z.bmod (2 ^ 32) else z.bmod (2 ^ 64)
theorem ab_wr_id {k : Nat} {z : Int} (h : ab_R k z) : ab_wr k z = z := by
  unfold ab_wr
  cases hk : Nat.beq k 0
  · have h1 := h.1; have h2 := h.2
    rw [ab_loS hk] at h1; rw [ab_hiS hk] at h2
    exact ab_bm64 h1 h2
  · cases ab_k0 hk
    exact ab_bm32 h
theorem ab_w_eq (k : Nat) (z : Int) : ab_w k z = ab_wr k z := by
  unfold ab_w
  cases h : ab_inR k z z
  · unfold ab_wr
    cases Nat.beq k 0 <;> rfl
  · have h2 := ab_inR_iff k z z h
    exact (ab_wr_id h2).symm
theorem ab_z_add {k : Nat} {x y : Int} (hx : ab_R k x) (hy : ab_R k y) : ab_opZ k 0 x y = ab_wr k (x + y) := by
  unfold ab_opZ ab_wr
  cases hk : Nat.beq k 0
  · have a1 := hx.1; have a2 := hx.2; have b1 := hy.1; have b2 := hy.2
    rw [ab_loS hk] at a1 b1; rw [ab_hiS hk] at a2 b2
    show (Int64.ofInt x + Int64.ofInt y).toInt = _
    rw [Int64.toInt_add, ab_t64 a1 a2, ab_t64 b1 b2]; rfl
  · cases ab_k0 hk
    show (Int32.ofInt x + Int32.ofInt y).toInt = _
    rw [Int32.toInt_add, ab_t32 hx, ab_t32 hy]; rfl
theorem ab_z_sub {k : Nat} {x y : Int} (hx : ab_R k x) (hy : ab_R k y) : ab_opZ k 1 x y = ab_wr k (x - y) := by
  unfold ab_opZ ab_wr
  cases hk : Nat.beq k 0
  · have a1 := hx.1; have a2 := hx.2; have b1 := hy.1; have b2 := hy.2
    rw [ab_loS hk] at a1 b1; rw [ab_hiS hk] at a2 b2
    show (Int64.ofInt x - Int64.ofInt y).toInt = _
    rw [Int64.toInt_sub, ab_t64 a1 a2, ab_t64 b1 b2]; rfl
  · cases ab_k0 hk
    show (Int32.ofInt x - Int32.ofInt y).toInt = _
    rw [Int32.toInt_sub, ab_t32 hx, ab_t32 hy]; rfl
theorem ab_z_mul {k : Nat} {x y : Int} (hx : ab_R k x) (hy : ab_R k y) : ab_opZ k 2 x y = ab_wr k (x * y) := by
  unfold ab_opZ ab_wr
  cases hk : Nat.beq k 0
  · have a1 := hx.1; have a2 := hx.2; have b1 := hy.1; have b2 := hy.2
    rw [ab_loS hk] at a1 b1; rw [ab_hiS hk] at a2 b2
    show (Int64.ofInt x * Int64.ofInt y).toInt = _
    rw [Int64.toInt_mul, ab_t64 a1 a2, ab_t64 b1 b2]; rfl
  · cases ab_k0 hk
    show (Int32.ofInt x * Int32.ofInt y).toInt = _
    rw [Int32.toInt_mul, ab_t32 hx, ab_t32 hy]; rfl
theorem ab_z_div {k : Nat} {x y : Int} (hx : ab_R k x) (hy : ab_R k y) : ab_opZ k 3 x y = ab_wr k (x.tdiv y) := by
  unfold ab_opZ ab_wr
  cases hk : Nat.beq k 0
  · have a1 := hx.1; have a2 := hx.2; have b1 := hy.1; have b2 := hy.2
    rw [ab_loS hk] at a1 b1; rw [ab_hiS hk] at a2 b2
    show (Int64.ofInt x / Int64.ofInt y).toInt = _
    rw [Int64.toInt_div, ab_t64 a1 a2, ab_t64 b1 b2]; rfl
  · cases ab_k0 hk
    show (Int32.ofInt x / Int32.ofInt y).toInt = _
    rw [Int32.toInt_div, ab_t32 hx, ab_t32 hy]; rfl
theorem ab_tmod_R {k : Nat} {x y : Int} (hx : ab_R k x) : ab_R k (x.tmod y) := by
  have h0 : ab_lo k ≤ 0 ∧ 0 ≤ ab_hi k := by
    cases hk : Nat.beq k 0
    · rw [ab_loS hk, ab_hiS hk]; omega
    · cases ab_k0 hk; rw [ab_lo0, ab_hi0]; omega
  have h1 := hx.1; have h2 := hx.2
  have e : (x.tmod y).natAbs ≤ x.natAbs := by
    rw [Int.natAbs_tmod]; exact Nat.mod_le _ _
  rcases Int.le_total 0 x with h | h
  · have := Int.tmod_nonneg y h
    exact ⟨by omega, by omega⟩
  · have h3 : x.tmod y ≤ 0 := by
      have := Int.tmod_nonneg y (show 0 ≤ -x by omega)
      rw [Int.neg_tmod] at this
      omega
    exact ⟨by omega, by omega⟩
theorem ab_z_rem {k : Nat} {x y : Int} (hx : ab_R k x) (hy : ab_R k y) : ab_opZ k 4 x y = x.tmod y := by
  have hR := ab_tmod_R (y := y) hx
  have e : x - x.tdiv y * y = x.tmod y := by
    have := Int.tdiv_mul_add_tmod x y
    omega
  rw [← ab_wr_id hR, ← e]
  unfold ab_opZ ab_wr
  cases hk : Nat.beq k 0
  · have a1 := hx.1; have a2 := hx.2; have b1 := hy.1; have b2 := hy.2
    rw [ab_loS hk] at a1 b1; rw [ab_hiS hk] at a2 b2
    show (Int64.ofInt x - Int64.ofInt x / Int64.ofInt y * Int64.ofInt y).toInt = (x - x.tdiv y * y).bmod (2 ^ 64)
    rw [Int64.toInt_sub, Int64.toInt_mul, Int64.toInt_div, ab_t64 a1 a2, ab_t64 b1 b2, Int.sub_bmod_bmod, ← Int.sub_bmod_bmod (x := x) (y := Int.bmod (x.tdiv y) (2 ^ 64) * y), Int.bmod_mul_bmod, Int.sub_bmod_bmod]
  · cases ab_k0 hk
    show (Int32.ofInt x - Int32.ofInt x / Int32.ofInt y * Int32.ofInt y).toInt = (x - x.tdiv y * y).bmod (2 ^ 32)
    rw [Int32.toInt_sub, Int32.toInt_mul, Int32.toInt_div, ab_t32 hx, ab_t32 hy, Int.sub_bmod_bmod, ← Int.sub_bmod_bmod (x := x) (y := Int.bmod (x.tdiv y) (2 ^ 32) * y), Int.bmod_mul_bmod, Int.sub_bmod_bmod]
theorem ab_co_eq {k op : Nat} {x y : Int} (hx : ab_R k x) (hy : ab_R k y) : ab_co k op x y = ab_opZ k op x y := by
  unfold ab_co
  cases h0 : Nat.beq op 0
  · cases h1 : Nat.beq op 1
    · cases h2 : Nat.beq op 2
      · cases h3 : Nat.beq op 3
        · cases h4 : Nat.beq op 4
          · rfl
          · cases ab_beq h4; exact (ab_z_rem hx hy).symm
        · cases ab_beq h3; exact (ab_w_eq k _).trans (ab_z_div hx hy).symm
      · cases ab_beq h2; exact (ab_w_eq k _).trans (ab_z_mul hx hy).symm
    · cases ab_beq h1; exact (ab_w_eq k _).trans (ab_z_sub hx hy).symm
  · cases ab_beq h0; exact (ab_w_eq k _).trans (ab_z_add hx hy).symm
