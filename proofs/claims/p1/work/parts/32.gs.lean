/-! NARROWINGS. -/
noncomputable def abHSf (l : List ((Nat × Nat) × ab_B)) (y pc : Nat) : Option ab_B := List.rec none (fun q _ r => bif (bif Nat.beq q.1.1 y then Nat.beq q.1.2 pc else false) then some q.2 else r) l
/-- narrowings, the last first -/
noncomputable def abGs (l : List (Nat × Int × Int)) : ab_G := List.rec abG40 (fun q _ r => ab_ct r (.inr q.1) q.2.1 q.2.2) l
noncomputable def abGo (l : List ((Nat × Nat) × ab_B)) (cs : List (Nat × Int × Int)) : Bool := ab_runF abBS abP abNF (abHSf l) 1000000 0 [] true (ab_dr 24 (abP 0).1) abL0 [.inl (.inl (.inr 8))] (abGs cs) abH0 489 917392 abKfin
theorem abGs_ok {ρ : Nat → Int} (hs : ab_Sat ρ abG40) : ∀ cs : List (Nat × Int × Int), (∀ q ∈ cs, q.1 < 9 ∧ q.2.1 ≤ ρ q.1 ∧ ρ q.1 ≤ q.2.2) → ab_Sat ρ (abGs cs) ∧ (abGs cs).1 = 9
  | [], _ => ⟨hs, rfl⟩
  | q :: cs, h => by
    obtain ⟨h1, h2⟩ := abGs_ok hs cs (fun q hq => h q (List.mem_cons_of_mem _ hq))
    obtain ⟨h3, h4, h5⟩ := h q List.mem_cons_self
    have h6 := ab_ct_ok h1 (a := .inr q.1) (show q.1 < (abGs cs).1 by rw [h2]; exact h3) (p := q.2.1) (q := q.2.2) ⟨h4, h5⟩
    exact ⟨h6.1, h6.2.trans h2⟩
/-- a case that went well -/
noncomputable def abGoG (G : ab_G) : Bool := ab_runF abBS abP abNF (fun _ _ => none) 1000000 0 [] true (ab_dr 24 (abP 0).1) abL0 [.inl (.inl (.inr 8))] G abH0 489 917392 abKfin
def abCs (ρ : Nat → Int) : Prop := (∃ l cs, abGo l cs = true ∧ ∀ q ∈ cs, q.1 < 9 ∧ q.2.1 ≤ ρ q.1 ∧ ρ q.1 ≤ q.2.2) ∨ (ρ 1 = 611 ∧ ρ 8 = 0) ∨ ∃ (G' : ab_G) (ρ' : Nat → Int), ab_Ext 9 ρ G'.1 ρ' ∧ ab_Sat ρ' G' ∧ abGoG G' = true
theorem ab_seg {a n : Nat} {ρ : Nat → Int} (h8 : ρ 8 = 0) (h : (List.range n).all (fun j => abGo [] [(1, .ofNat (a + j), .ofNat (a + j)), (8, .ofNat 0, .ofNat 0)]) = true) (h1 : (a : Int) ≤ ρ 1) (h2 : ρ 1 < ((a + n : Nat) : Int)) : abCs ρ := by
  have h3 := List.all_eq_true.mp h (ρ 1 - a).toNat (List.mem_range.mpr (by omega))
  refine Or.inl ⟨_, _, h3, fun q hq => ?_⟩
  have e : Int.ofNat (a + (ρ 1 - a).toNat) = ρ 1 := by
    show ((a + (ρ 1 - a).toNat : Nat) : Int) = ρ 1
    omega
  rcases List.mem_cons.mp hq with rfl | hq
  · exact ⟨(show (1 : Nat) < 9 by decide), Int.le_of_eq e, Int.le_of_eq e.symm⟩
  rcases List.mem_cons.mp hq with rfl | hq
  · exact ⟨(show (8 : Nat) < 9 by decide), Int.le_of_eq h8.symm, Int.le_of_eq h8⟩
  cases hq
