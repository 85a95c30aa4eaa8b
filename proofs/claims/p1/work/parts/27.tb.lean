/-! THE TABLES ARE RIGHT. -/
theorem abck_any {P : Nat → ab_M} {HS HS' : Nat → Nat → Option ab_B} {NF : Nat → Nat} {FT : Nat → Nat → Nat} {BS BS' : Nat → Option ab_C} {Y : Nat → MethodName} {CB : Nat → ByteArray} {ML : Nat → Nat} {RT : Nat → Option FieldType} {FR LO : Nat → Nat} {TW NW : List Cond} {EN : Nat → String} {CT : Nat → String × u_T} {cl : List vw_C} {NC : Nat} {HT : Nat → List (Nat × Nat × Nat × Nat)} {NX : List (String × String)} {K : ab_KT} {y : Nat} :
    ab_ck (P, HS, NF, FT, BS, Y, CB, ML, RT, FR, LO, TW, NW, EN, CT, cl, NC, HT, NX) K y = ab_ck (P, HS', NF, FT, BS', Y, CB, ML, RT, FR, LO, TW, NW, EN, CT, cl, NC, HT, NX) K y := rfl
theorem abCk_rj : ∀ r, r < 27 → ∀ j, j < 24 → r * 24 + j < 630 → ab_ck (abZ (fun _ _ => none) (fun _ => none)) abK (r * 24 + j) = true
  | 0, _ => fun j h1 h2 => List.all_eq_true.mp abCk0 j (List.mem_range.mpr (by omega))
  | 1, _ => fun j h1 h2 => List.all_eq_true.mp abCk1 j (List.mem_range.mpr (by omega))
  | 2, _ => fun j h1 h2 => List.all_eq_true.mp abCk2 j (List.mem_range.mpr (by omega))
  | 3, _ => fun j h1 h2 => List.all_eq_true.mp abCk3 j (List.mem_range.mpr (by omega))
  | 4, _ => fun j h1 h2 => List.all_eq_true.mp abCk4 j (List.mem_range.mpr (by omega))
  | 5, _ => fun j h1 h2 => List.all_eq_true.mp abCk5 j (List.mem_range.mpr (by omega))
  | 6, _ => fun j h1 h2 => List.all_eq_true.mp abCk6 j (List.mem_range.mpr (by omega))
  | 7, _ => fun j h1 h2 => List.all_eq_true.mp abCk7 j (List.mem_range.mpr (by omega))
  | 8, _ => fun j h1 h2 => List.all_eq_true.mp abCk8 j (List.mem_range.mpr (by omega))
  | 9, _ => fun j h1 h2 => List.all_eq_true.mp abCk9 j (List.mem_range.mpr (by omega))
  | 10, _ => fun j h1 h2 => List.all_eq_true.mp abCk10 j (List.mem_range.mpr (by omega))
  | 11, _ => fun j h1 h2 => List.all_eq_true.mp abCk11 j (List.mem_range.mpr (by omega))
  | 12, _ => fun j h1 h2 => List.all_eq_true.mp abCk12 j (List.mem_range.mpr (by omega))
  | 13, _ => fun j h1 h2 => List.all_eq_true.mp abCk13 j (List.mem_range.mpr (by omega))
  | 14, _ => fun j h1 h2 => List.all_eq_true.mp abCk14 j (List.mem_range.mpr (by omega))
  | 15, _ => fun j h1 h2 => List.all_eq_true.mp abCk15 j (List.mem_range.mpr (by omega))
  | 16, _ => fun j h1 h2 => List.all_eq_true.mp abCk16 j (List.mem_range.mpr (by omega))
  | 17, _ => fun j h1 h2 => List.all_eq_true.mp abCk17 j (List.mem_range.mpr (by omega))
  | 18, _ => fun j h1 h2 => List.all_eq_true.mp abCk18 j (List.mem_range.mpr (by omega))
  | 19, _ => fun j h1 h2 => List.all_eq_true.mp abCk19 j (List.mem_range.mpr (by omega))
  | 20, _ => fun j h1 h2 => List.all_eq_true.mp abCk20 j (List.mem_range.mpr (by omega))
  | 21, _ => fun j h1 h2 => List.all_eq_true.mp abCk21 j (List.mem_range.mpr (by omega))
  | 22, _ => fun j h1 h2 => List.all_eq_true.mp abCk22 j (List.mem_range.mpr (by omega))
  | 23, _ => fun j h1 h2 => List.all_eq_true.mp abCk23 j (List.mem_range.mpr (by omega))
  | 24, _ => fun j h1 h2 => List.all_eq_true.mp abCk24 j (List.mem_range.mpr (by omega))
  | 25, _ => fun j h1 h2 => List.all_eq_true.mp abCk25 j (List.mem_range.mpr (by omega))
  | 26, _ => fun j h1 h2 => List.all_eq_true.mp abCk26 j (List.mem_range.mpr (by omega))
  | _ + 27, h => absurd h (by omega)
theorem abCk_ok (HS : Nat → Nat → Option ab_B) (BS : Nat → Option ab_C) (y : Nat) (h : y < 630) : ab_ck (abZ HS BS) abK y = true := by
  have e : y / 24 * 24 + y % 24 = y := by omega
  have := abCk_rj (y / 24) (by omega) (y % 24) (by omega) (by omega)
  rw [e] at this
  exact (abck_any).trans this
theorem abP_out {y : Nat} (h : 630 ≤ y) : (abP y).1 = [] := by
  unfold abP
  by_cases h2 : y / 24 < 27
  · have e : y / 24 = 26 := by omega
    have e3 : 6 ≤ y % 24 := by omega
    have q1 : ab_at abP_l (y / 24) = some abP_26 := by rw [e]; rfl
    have q2 : ab_at abP_26 (y % 24) = none := by
      rw [ab_at_eq]
      exact List.getElem?_eq_none e3
    rw [q1]
    show (match ab_at abP_26 (y % 24) with
      | some m => m
      | none => ([], 0, 0, [])).1 = []
    rw [q2]
  · have q1 : ab_at abP_l (y / 24) = none := by
      rw [ab_at_eq]
      exact List.getElem?_eq_none (Nat.not_lt.mp h2)
    rw [q1]
theorem abNWot : ∀ w ∈ abNW, w.onTables = true := fun w hw => by
  rcases List.mem_append.mp hw with h | h
  · obtain ⟨q, hq, rfl⟩ := List.mem_map.mp h
    rfl
  · rcases List.mem_append.mp h with h | h
    · rcases List.mem_cons.mp h with rfl | h
      · rfl
      rcases List.mem_cons.mp h with rfl | h
      · rfl
      rcases List.mem_cons.mp h with rfl | h
      · rfl
      cases h
    · obtain ⟨x, hx, rfl⟩ := List.mem_map.mp h
      rfl
theorem abNWm : ∀ w ∈ abNW, ∀ s U : State, s.WarmedH U.vm → va_Nw w s → va_Nw w U := fun w hw s U hW hz => by
  rcases List.mem_append.mp hw with h | h
  · obtain ⟨q, hq, rfl⟩ := List.mem_map.mp h
    exact va_Nw.warmM hW hz
  · rcases List.mem_append.mp h with h | h
    · rcases List.mem_cons.mp h with rfl | h
      · exact va_Nw.warmC hW hz
      rcases List.mem_cons.mp h with rfl | h
      · exact va_Nw.warmC hW hz
      rcases List.mem_cons.mp h with rfl | h
      · exact va_Nw.warmC hW hz
      cases h
    · obtain ⟨x, hx, rfl⟩ := List.mem_map.mp h
      exact va_Nw.warmD hW hz
theorem abTb (HS : Nat → Nat → Option ab_B) (BS : Nat → Option ab_C) (hBS : ∀ c x, BS c = some x → ab_cC x = true) : ab_Tb (abZ HS BS) := by
  refine ⟨⟨fun w hw => good_of_word (List.mem_filter.mp hw).2, abNWm, abNWot, hBS⟩, fun y i pc fl cl A x1 x2 Xs rest hi => ?_⟩
  by_cases h : y < 630
  · exact ab_ck_ok (abLKa HS BS) (abLKb HS BS) abCL (abCk_ok HS BS y h) hi
  · have e : (abP y).1 = [] := abP_out (Nat.not_lt.mp h)
    have hi' : ab_dr i (abP y).1 = (pc, fl, cl, A, x1, x2, Xs) :: rest := hi
    rw [e, ab_dr_nil] at hi'
    cases hi'
