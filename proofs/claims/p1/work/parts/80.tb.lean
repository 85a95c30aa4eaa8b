/-! THE TABLES ARE RIGHT. -/
theorem abck_any {P : Nat → ab_M} {HS HS' : Nat → Nat → Option ab_B} {NF : Nat → Nat} {FT : Nat → Nat → Nat} {BS BS' : Nat → Option ab_C} {Y : Nat → MethodName} {CB : Nat → ByteArray} {ML : Nat → Nat} {RT : Nat → Option FieldType} {FR LO : Nat → Nat} {TW NW : List Cond} {EN : Nat → String} {CT : Nat → String × u_T} {cl : List vw_C} {NC : Nat} {HT : Nat → List (Nat × Nat × Nat × Nat)} {NX : List (String × String)} {K : ab_KT} {y : Nat} :
    ab_ck (P, HS, NF, FT, BS, Y, CB, ML, RT, FR, LO, TW, NW, EN, CT, cl, NC, HT, NX) K y = ab_ck (P, HS', NF, FT, BS', Y, CB, ML, RT, FR, LO, TW, NW, EN, CT, cl, NC, HT, NX) K y := rfl
theorem abck_at {a n y : Nat} {HS : Nat → Nat → Option ab_B} {BS : Nat → Option ab_C} (h : (List.range n).all (fun j => ab_ck (abZ (fun _ _ => none) (fun _ => none)) abK (a + j)) = true) (h1 : a ≤ y) (h2 : y < a + n) : ab_ck (abZ HS BS) abK y = true := by
  have h3 := List.all_eq_true.mp h (y - a) (List.mem_range.mpr (by omega))
  have e : a + (y - a) = y := by omega
  rw [e] at h3
  exact (abck_any).trans h3
theorem abCk_ok (HS : Nat → Nat → Option ab_B) (BS : Nat → Option ab_C) (y : Nat) (h : y < 630) : ab_ck (abZ HS BS) abK y = true := by
  by_cases c0 : y < 16
  · exact abck_at (a := 0) (n := 16) abCk0 (by omega) c0
  by_cases c16 : y < 45
  · exact abck_at (a := 16) (n := 29) abCk16 (by omega) c16
  by_cases c45 : y < 67
  · exact abck_at (a := 45) (n := 22) abCk45 (by omega) c45
  by_cases c67 : y < 91
  · exact abck_at (a := 67) (n := 24) abCk67 (by omega) c67
  by_cases c91 : y < 117
  · exact abck_at (a := 91) (n := 26) abCk91 (by omega) c91
  by_cases c117 : y < 140
  · exact abck_at (a := 117) (n := 23) abCk117 (by omega) c117
  by_cases c140 : y < 161
  · exact abck_at (a := 140) (n := 21) abCk140 (by omega) c140
  by_cases c161 : y < 183
  · exact abck_at (a := 161) (n := 22) abCk161 (by omega) c161
  by_cases c183 : y < 204
  · exact abck_at (a := 183) (n := 21) abCk183 (by omega) c183
  by_cases c204 : y < 226
  · exact abck_at (a := 204) (n := 22) abCk204 (by omega) c204
  by_cases c226 : y < 247
  · exact abck_at (a := 226) (n := 21) abCk226 (by omega) c226
  by_cases c247 : y < 276
  · exact abck_at (a := 247) (n := 29) abCk247 (by omega) c247
  by_cases c276 : y < 304
  · exact abck_at (a := 276) (n := 28) abCk276 (by omega) c276
  by_cases c304 : y < 323
  · exact abck_at (a := 304) (n := 19) abCk304 (by omega) c304
  by_cases c323 : y < 329
  · exact abck_at (a := 323) (n := 6) abCk323 (by omega) c323
  by_cases c329 : y < 334
  · exact abck_at (a := 329) (n := 5) abCk329 (by omega) c329
  by_cases c334 : y < 340
  · exact abck_at (a := 334) (n := 6) abCk334 (by omega) c334
  by_cases c340 : y < 353
  · exact abck_at (a := 340) (n := 13) abCk340 (by omega) c340
  by_cases c353 : y < 367
  · exact abck_at (a := 353) (n := 14) abCk353 (by omega) c353
  by_cases c367 : y < 382
  · exact abck_at (a := 367) (n := 15) abCk367 (by omega) c367
  by_cases c382 : y < 401
  · exact abck_at (a := 382) (n := 19) abCk382 (by omega) c382
  by_cases c401 : y < 422
  · exact abck_at (a := 401) (n := 21) abCk401 (by omega) c401
  by_cases c422 : y < 444
  · exact abck_at (a := 422) (n := 22) abCk422 (by omega) c422
  by_cases c444 : y < 462
  · exact abck_at (a := 444) (n := 18) abCk444 (by omega) c444
  by_cases c462 : y < 482
  · exact abck_at (a := 462) (n := 20) abCk462 (by omega) c462
  by_cases c482 : y < 498
  · exact abck_at (a := 482) (n := 16) abCk482 (by omega) c482
  by_cases c498 : y < 518
  · exact abck_at (a := 498) (n := 20) abCk498 (by omega) c498
  by_cases c518 : y < 539
  · exact abck_at (a := 518) (n := 21) abCk518 (by omega) c518
  by_cases c539 : y < 555
  · exact abck_at (a := 539) (n := 16) abCk539 (by omega) c539
  by_cases c555 : y < 578
  · exact abck_at (a := 555) (n := 23) abCk555 (by omega) c555
  by_cases c578 : y < 598
  · exact abck_at (a := 578) (n := 20) abCk578 (by omega) c578
  by_cases c598 : y < 623
  · exact abck_at (a := 598) (n := 25) abCk598 (by omega) c598
  by_cases c623 : y < 630
  · exact abck_at (a := 623) (n := 7) abCk623 (by omega) c623
  exfalso
  omega
theorem abP_out {y : Nat} (h : 630 ≤ y) : (abP y).1 = [] := by
  unfold abP
  by_cases h2 : y / 24 < 27
  · have e : y / 24 = 26 := by omega
    have e3 : 6 ≤ y % 24 := by omega
    have q1 : ab_at abP_l (y / 24) = some abP_26 := by rw [e]; rfl
    have q2 : ab_at abP_26 (y % 24) = none := by
      rw [ab_at_eq]
      exact List.getElem?_eq_none e3
    rw [q1]
    show (match ab_at abP_26 (y % 24) with
      | some m => m
      | none => ([], 0, 0, [])).1 = []
    rw [q2]
  · have q1 : ab_at abP_l (y / 24) = none := by
      rw [ab_at_eq]
      exact List.getElem?_eq_none (Nat.not_lt.mp h2)
    rw [q1]
theorem abTb (HS : Nat → Nat → Option ab_B) (BS : Nat → Option ab_C) (hBS : ∀ c x, BS c = some x → ab_cC x = true) : ab_Tb (abZ HS BS) := by
  refine ⟨⟨fun w hw => good_of_word (List.mem_filter.mp hw).2, abNWm, abNWot, hBS⟩, fun y i pc fl cl A x1 x2 Xs rest hi => ?_⟩
  by_cases h : y < 630
  · exact ab_ck_ok (abLKa HS BS) (abLKb HS BS) abCL (abCk_ok HS BS y h) hi
  · have e : (abP y).1 = [] := abP_out (Nat.not_lt.mp h)
    have hi' : ab_dr i (abP y).1 = (pc, fl, cl, A, x1, x2, Xs) :: rest := hi
    rw [e, ab_dr_nil] at hi'
    cases hi'
