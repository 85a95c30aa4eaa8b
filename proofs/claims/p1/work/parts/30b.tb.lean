/-! THE TABLES ARE RIGHT. -/
theorem abck_any {P : Nat → ab_M} {HS HS' : Nat → Nat → Option ab_B} {NF : Nat → Nat} {FT : Nat → Nat → Nat} {BS BS' : Nat → Option ab_C} {Y : Nat → MethodName} {CB : Nat → ByteArray} {ML : Nat → Nat} {RT : Nat → Option FieldType} {FR LO : Nat → Nat} {TW NW : List Cond} {EN : Nat → String} {CT : Nat → String × u_T} {cl : List vw_C} {NC : Nat} {HT : Nat → List (Nat × Nat × Nat × Nat)} {NX : List (String × String)} {K : ab_KT} {y : Nat} :
    ab_ck (P, HS, NF, FT, BS, Y, CB, ML, RT, FR, LO, TW, NW, EN, CT, cl, NC, HT, NX) K y = ab_ck (P, HS', NF, FT, BS', Y, CB, ML, RT, FR, LO, TW, NW, EN, CT, cl, NC, HT, NX) K y := rfl
theorem abck_at {a n y : Nat} {HS : Nat → Nat → Option ab_B} {BS : Nat → Option ab_C} (h : (List.range n).all (fun j => ab_ck (abZ (fun _ _ => none) (fun _ => none)) abK (a + j)) = true) (h1 : a ≤ y) (h2 : y < a + n) : ab_ck (abZ HS BS) abK y = true := by
  have h3 := List.all_eq_true.mp h (y - a) (List.mem_range.mpr (by omega))
  have e : a + (y - a) = y := by omega
  rw [e] at h3
  exact (abck_any).trans h3
theorem abCk_ok (HS : Nat → Nat → Option ab_B) (BS : Nat → Option ab_C) (y : Nat) (h : y < 630) : ab_ck (abZ HS BS) abK y = true := by
  by_cases c0 : y < 16
  · exact abck_at (a := 0) (n := 16) abCk0 (by omega) c0
  by_cases c16 : y < 45
  · exact abck_at (a := 16) (n := 29) abCk16 (by omega) c16
  by_cases c45 : y < 67
  · exact abck_at (a := 45) (n := 22) abCk45 (by omega) c45
  by_cases c67 : y < 91
  · exact abck_at (a := 67) (n := 24) abCk67 (by omega) c67
  by_cases c91 : y < 117
  · exact abck_at (a := 91) (n := 26) abCk91 (by omega) c91
  by_cases c117 : y < 140
  · exact abck_at (a := 117) (n := 23) abCk117 (by omega) c117
  by_cases c140 : y < 161
  · exact abck_at (a := 140) (n := 21) abCk140 (by omega) c140
  by_cases c161 : y < 183
  · exact abck_at (a := 161) (n := 22) abCk161 (by omega) c161
  by_cases c183 : y < 204
  · exact abck_at (a := 183) (n := 21) abCk183 (by omega) c183
  by_cases c204 : y < 226
  · exact abck_at (a := 204) (n := 22) abCk204 (by omega) c204
  by_cases c226 : y < 247
  · exact abck_at (a := 226) (n := 21) abCk226 (by omega) c226
  by_cases c247 : y < 276
  · exact abck_at (a := 247) (n := 29) abCk247 (by omega) c247
  by_cases c276 : y < 304
  · exact abck_at (a := 276) (n := 28) abCk276 (by omega) c276
  by_cases c304 : y < 323
  · exact abck_at (a := 304) (n := 19) abCk304 (by omega) c304
  by_cases c323 : y < 326
  · exact abck_at (a := 323) (n := 3) abCk323 (by omega) c323
  by_cases c326 : y < 328
  · exact abck_at (a := 326) (n := 2) abCk326 (by omega) c326
  by_cases c328 : y < 329
  · exact abck_at (a := 328) (n := 1) abCk328 (by omega) c328
  by_cases c329 : y < 331
  · exact abck_at (a := 329) (n := 2) abCk329 (by omega) c329
  by_cases c331 : y < 333
  · exact abck_at (a := 331) (n := 2) abCk331 (by omega) c331
  by_cases c333 : y < 335
  · exact abck_at (a := 333) (n := 2) abCk333 (by omega) c333
  by_cases c335 : y < 336
  · exact abck_at (a := 335) (n := 1) abCk335 (by omega) c335
  by_cases c336 : y < 340
  · exact abck_at (a := 336) (n := 4) abCk336 (by omega) c336
  by_cases c340 : y < 341
  · exact abck_at (a := 340) (n := 1) abCk340 (by omega) c340
  by_cases c341 : y < 354
  · exact abck_at (a := 341) (n := 13) abCk341 (by omega) c341
  by_cases c354 : y < 364
  · exact abck_at (a := 354) (n := 10) abCk354 (by omega) c354
  by_cases c364 : y < 367
  · exact abck_at (a := 364) (n := 3) abCk364 (by omega) c364
  by_cases c367 : y < 368
  · exact abck_at (a := 367) (n := 1) abCk367 (by omega) c367
  by_cases c368 : y < 381
  · exact abck_at (a := 368) (n := 13) abCk368 (by omega) c368
  by_cases c381 : y < 389
  · exact abck_at (a := 381) (n := 8) abCk381 (by omega) c381
  by_cases c389 : y < 404
  · exact abck_at (a := 389) (n := 15) abCk389 (by omega) c389
  by_cases c404 : y < 414
  · exact abck_at (a := 404) (n := 10) abCk404 (by omega) c404
  by_cases c414 : y < 426
  · exact abck_at (a := 414) (n := 12) abCk414 (by omega) c414
  by_cases c426 : y < 438
  · exact abck_at (a := 426) (n := 12) abCk426 (by omega) c426
  by_cases c438 : y < 448
  · exact abck_at (a := 438) (n := 10) abCk438 (by omega) c438
  by_cases c448 : y < 455
  · exact abck_at (a := 448) (n := 7) abCk448 (by omega) c448
  by_cases c455 : y < 466
  · exact abck_at (a := 455) (n := 11) abCk455 (by omega) c455
  by_cases c466 : y < 479
  · exact abck_at (a := 466) (n := 13) abCk466 (by omega) c466
  by_cases c479 : y < 483
  · exact abck_at (a := 479) (n := 4) abCk479 (by omega) c479
  by_cases c483 : y < 487
  · exact abck_at (a := 483) (n := 4) abCk483 (by omega) c483
  by_cases c487 : y < 500
  · exact abck_at (a := 487) (n := 13) abCk487 (by omega) c487
  by_cases c500 : y < 513
  · exact abck_at (a := 500) (n := 13) abCk500 (by omega) c500
  by_cases c513 : y < 522
  · exact abck_at (a := 513) (n := 9) abCk513 (by omega) c513
  by_cases c522 : y < 536
  · exact abck_at (a := 522) (n := 14) abCk522 (by omega) c522
  by_cases c536 : y < 547
  · exact abck_at (a := 536) (n := 11) abCk536 (by omega) c536
  by_cases c547 : y < 554
  · exact abck_at (a := 547) (n := 7) abCk547 (by omega) c547
  by_cases c554 : y < 563
  · exact abck_at (a := 554) (n := 9) abCk554 (by omega) c554
  by_cases c563 : y < 581
  · exact abck_at (a := 563) (n := 18) abCk563 (by omega) c563
  by_cases c581 : y < 590
  · exact abck_at (a := 581) (n := 9) abCk581 (by omega) c581
  by_cases c590 : y < 604
  · exact abck_at (a := 590) (n := 14) abCk590 (by omega) c590
  by_cases c604 : y < 622
  · exact abck_at (a := 604) (n := 18) abCk604 (by omega) c604
  by_cases c622 : y < 630
  · exact abck_at (a := 622) (n := 8) abCk622 (by omega) c622
  exfalso
  omega
theorem abP_out {y : Nat} (h : 630 ≤ y) : (abP y).1 = [] := by
  unfold abP
  by_cases h2 : y / 24 < 27
  · have e : y / 24 = 26 := by omega
    have e3 : 6 ≤ y % 24 := by omega
    have q1 : ab_at abP_l (y / 24) = some abP_26 := by rw [e]; rfl
    have q2 : ab_at abP_26 (y % 24) = none := by
      rw [ab_at_eq]
      exact List.getElem?_eq_none e3
    rw [q1]
    show (match ab_at abP_26 (y % 24) with
      | some m => m
      | none => ([], 0, 0, [])).1 = []
    rw [q2]
  · have q1 : ab_at abP_l (y / 24) = none := by
      rw [ab_at_eq]
      exact List.getElem?_eq_none (Nat.not_lt.mp h2)
    rw [q1]
theorem abTb (HS : Nat → Nat → Option ab_B) (BS : Nat → Option ab_C) (hBS : ∀ c x, BS c = some x → ab_cC x = true) : ab_Tb (abZ HS BS) := by
  refine ⟨⟨fun w hw => good_of_word (List.mem_filter.mp hw).2, abNWm, abNWot, hBS⟩, fun y i pc fl cl A x1 x2 Xs rest hi => ?_⟩
  by_cases h : y < 630
  · exact ab_ck_ok (abLKa HS BS) (abLKb HS BS) abCL (abCk_ok HS BS y h) hi
  · have e : (abP y).1 = [] := abP_out (Nat.not_lt.mp h)
    have hi' : ab_dr i (abP y).1 = (pc, fl, cl, A, x1, x2, Xs) :: rest := hi
    rw [e, ab_dr_nil] at hi'
    cases hi'
