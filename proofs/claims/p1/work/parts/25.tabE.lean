/-! THE TABLES ARE RIGHT: lookups, and every method s rows. -/
noncomputable def abZ (HS : Nat → Nat → Option ab_B) (BS : Nat → Option ab_C) : ab_ZT := (abP, HS, abNF, abFT, BS, abY, abCB, abML, abRT, abFR, abLO, abTW, abNW, abEN, abCT, abcl, 23, abHT, abNX)
noncomputable def abON (y : Nat) : Nat := (abD y).1
noncomputable def abHas {α : Type} (l : List (Nat × α)) (i : Nat) : Bool := match ab_lk l i with
  | some _ => true
  | none => false
noncomputable def abTh (y pc x1 : Nat) : Bool := bif Nat.beq pc 4 then (bif Nat.beq y 14 then Nat.beq x1 0 else bif Nat.beq y 12 then Nat.beq x1 1 else bif Nat.beq y 13 then Nat.beq x1 2 else false) else false
noncomputable def abK : ab_KT := (fun y i => ab_lk (abLF (abON y)) i, fun y i => ab_lk (abLI (abON y)) i, fun y i => ab_lk (abLL (abON y)) i, fun y i => abHas (abLD (abON y)) i, fun y i => ab_lk (abLN (abON y)) i, fun y i => ab_lk (abLA (abON y)) i, fun y i => ab_lk (abLM (abON y)) i, fun y i => ab_lk (abLX (abON y)) i, fun y i => abHas (abLJ (abON y)) i, fun y i => ab_lk (abLU (abON y)) i, fun y => (abKP y).1, fun y => (abKP y).2, abTh, fun y i => abHas (abLC (abON y)) i)
theorem ab_row_all {α : Type} {L : List (List α)} {f : α → Bool} (h : L.all (fun l => l.all f) = true) {o : Nat} {q : α} (hq : q ∈ ab_row L o) : f q = true := by
  unfold ab_row at hq
  cases hl : ab_at L o with
  | none => rw [hl] at hq; cases hq
  | some l =>
    rw [hl] at hq
    rw [ab_at_eq] at hl
    exact List.all_eq_true.mp (List.all_eq_true.mp h l (List.mem_of_getElem? hl)) q hq
theorem abHas_ok {α : Type} {l : List (Nat × α)} {i : Nat} (h : abHas l i = true) : ∃ v, (i, v) ∈ l := by
  unfold abHas at h
  cases hl : ab_lk l i with
  | none => rw [hl] at h; cases h
  | some v => exact ⟨v, ab_lk_mem hl⟩
theorem ab_hif {α : Type} {c : Bool} {x y : α} {g : α} (h : (bif c then x else y) = g) : (c = true ∧ x = g) ∨ y = g := by
  cases c
  · exact Or.inr h
  · exact Or.inl ⟨rfl, h⟩
theorem abLF_b : abLF_l.all (fun l => l.all (fun q => Nat.ble (q.2.1 + 1) 23 && Nat.ble (q.2.2 + 1) (abNF q.2.1))) = true := by decide +kernel
theorem abLN_b : abLN_l.all (fun l => l.all (fun q => Nat.ble (q.2 + 1) 23)) = true := by decide +kernel
theorem abLA_b : abLA_l.all (fun l => l.all (fun q => Nat.beq q.2 0 || (Nat.beq q.2 1 || Nat.beq q.2 5))) = true := by decide +kernel
theorem abLM_b : abLM_l.all (fun l => l.all (fun q => Nat.ble (q.2 + 1) 630 && Nat.ble 1 q.2)) = true := by decide +kernel
theorem abLX_b : abLX_l.all (fun l => l.all (fun q => Nat.ble (q.2 + 1) 630 && (Nat.ble 1 q.2 && (abHT q.2).isEmpty))) = true := by decide +kernel
theorem abLU_b : abLU_l.all (fun l => l.all (fun q => Nat.ble q.2 1)) = true := by decide +kernel
theorem abIn : ∀ ci, ci < 23 → Cond.instantiable (abCT ci).1 (abNF ci) ∈ abTW ∧ Cond.initialized (abCT ci).1 ∈ abTW
  | 0, _ => ⟨ab_in1 211 rfl rfl, ab_in1 5 rfl rfl⟩
  | 1, _ => ⟨ab_in2 115 rfl rfl, ab_in1 8 rfl rfl⟩
  | 2, _ => ⟨ab_in3 71 rfl rfl, ab_in1 12 rfl rfl⟩
  | 3, _ => ⟨ab_in3 140 rfl rfl, ab_in1 13 rfl rfl⟩
  | 4, _ => ⟨ab_in1 108 rfl rfl, ab_in1 3 rfl rfl⟩
  | 5, _ => ⟨ab_in3 12 rfl rfl, ab_in1 11 rfl rfl⟩
  | 6, _ => ⟨ab_in1 46 rfl rfl, ab_in1 2 rfl rfl⟩
  | 7, _ => ⟨ab_in2 182 rfl rfl, ab_in1 10 rfl rfl⟩
  | 8, _ => ⟨ab_in3 223 rfl rfl, ab_in1 14 rfl rfl⟩
  | 9, _ => ⟨ab_in2 121 rfl rfl, ab_in1 9 rfl rfl⟩
  | 10, _ => ⟨ab_in2 51 rfl rfl, ab_in1 7 rfl rfl⟩
  | 11, _ => ⟨ab_in1 38 rfl rfl, ab_in1 1 rfl rfl⟩
  | 12, _ => ⟨ab_in13 91 rfl rfl, ab_in1 18 rfl rfl⟩
  | 13, _ => ⟨ab_in14 55 rfl rfl, ab_in1 20 rfl rfl⟩
  | 14, _ => ⟨ab_in15 69 rfl rfl, ab_in1 23 rfl rfl⟩
  | 15, _ => ⟨ab_in15 178 rfl rfl, ab_in1 24 rfl rfl⟩
  | 16, _ => ⟨ab_in12 176 rfl rfl, ab_in1 17 rfl rfl⟩
  | 17, _ => ⟨ab_in14 233 rfl rfl, ab_in1 22 rfl rfl⟩
  | 18, _ => ⟨ab_in12 102 rfl rfl, ab_in1 16 rfl rfl⟩
  | 19, _ => ⟨ab_in14 124 rfl rfl, ab_in1 21 rfl rfl⟩
  | 20, _ => ⟨ab_in16 49 rfl rfl, ab_in1 25 rfl rfl⟩
  | 21, _ => ⟨ab_in13 210 rfl rfl, ab_in1 19 rfl rfl⟩
  | 22, _ => ⟨ab_in12 96 rfl rfl, ab_in1 15 rfl rfl⟩
  | _ + 23, h => absurd h (by omega)
theorem abLKa (HS : Nat → Nat → Option ab_B) (BS : Nat → Option ab_C) : ab_LKa (abZ HS BS) abK := by
  refine ⟨fun y i ci f h => ?_, fun y i z h => ?_, fun y i z h => ?_, fun y i h => ?_, fun y i ci h => ?_, fun y i t h => ?_, abAC⟩
  · have hm : (i, (ci, f)) ∈ abLF (abON y) := ab_lk_mem h
    have hb := ab_row_all abLF_b hm
    obtain ⟨b1, b2⟩ := Bool.and_eq_true_iff.mp hb
    exact ⟨abLF_ok _ _ hm, ab_ble b2, abCL ci (ab_ble b1)⟩
  · exact abLI_ok _ _ (ab_lk_mem h)
  · exact abLL_ok _ _ (ab_lk_mem h)
  · obtain ⟨v, hv⟩ := abHas_ok h
    exact abLD_ok _ _ hv
  · have hm : (i, ci) ∈ abLN (abON y) := ab_lk_mem h
    have hb : ci < 23 := ab_ble (ab_row_all abLN_b hm)
    exact ⟨abLN_ok _ _ hm, (abIn ci hb).1, (abIn ci hb).2, abCL ci hb⟩
  · have hm : (i, t) ∈ abLA (abON y) := ab_lk_mem h
    have hw : Cond.classLink (abCS (abON y)) i (abAn t) ∈ abTW := abLA_ok _ _ hm
    refine ⟨fun ht => ?_, fun ht => ?_⟩
    · match t, ht, hw with
      | 0, _, hw => exact hw
      | 1, _, hw => exact hw
      | _ + 2, ht, _ => omega
    · subst ht
      exact hw
theorem abHd : (List.range 630).all (fun y => (Nat.beq y 315 || (abP y).2.2.2.isEmpty) && ((match (abP y).1 with
    | [] => true
    | e :: _ => Nat.beq e.1 0) && (Nat.beq y 315 || (abHT y).isEmpty))) = true := by decide +kernel
theorem abTh_d0 : decode (abCB 14) 4 = .ok (.new 281, 3) ∧ decode (abCB 14) 7 = .ok (.dup, 1) ∧ decode (abCB 14) 8 = .ok (.invokespecial 283, 3) ∧ decode (abCB 14) 11 = .ok (.athrow, 1) := ⟨by decide +kernel, by decide +kernel, by decide +kernel, by decide +kernel⟩
theorem abTh_r0 : Bundle.fit (abEN 0) = true ∧ (∀ n ∈ ["java/lang/RuntimeException", "java/lang/Exception"], Bundle.fit n = true) ∧ 2 + 3 < abFR 14 ∧ 40 + (13 * (2 + 1) + 42) ≤ abLO 14 := ⟨by decide +kernel, by decide +kernel, by decide +kernel, by decide +kernel⟩
theorem abTh_d1 : decode (abCB 12) 4 = .ok (.new 284, 3) ∧ decode (abCB 12) 7 = .ok (.dup, 1) ∧ decode (abCB 12) 8 = .ok (.invokespecial 286, 3) ∧ decode (abCB 12) 11 = .ok (.athrow, 1) := ⟨by decide +kernel, by decide +kernel, by decide +kernel, by decide +kernel⟩
theorem abTh_r1 : Bundle.fit (abEN 1) = true ∧ (∀ n ∈ ["java/lang/RuntimeException", "java/lang/Exception"], Bundle.fit n = true) ∧ 2 + 3 < abFR 12 ∧ 40 + (13 * (2 + 1) + 42) ≤ abLO 12 := ⟨by decide +kernel, by decide +kernel, by decide +kernel, by decide +kernel⟩
theorem abTh_d2 : decode (abCB 13) 4 = .ok (.new 287, 3) ∧ decode (abCB 13) 7 = .ok (.dup, 1) ∧ decode (abCB 13) 8 = .ok (.invokespecial 289, 3) ∧ decode (abCB 13) 11 = .ok (.athrow, 1) := ⟨by decide +kernel, by decide +kernel, by decide +kernel, by decide +kernel⟩
theorem abTh_r2 : Bundle.fit (abEN 2) = true ∧ (∀ n ∈ ["java/lang/RuntimeException", "java/lang/Exception"], Bundle.fit n = true) ∧ 2 + 3 < abFR 13 ∧ 40 + (13 * (2 + 1) + 42) ≤ abLO 13 := ⟨by decide +kernel, by decide +kernel, by decide +kernel, by decide +kernel⟩
theorem abThr (HS : Nat → Nat → Option ab_B) (BS : Nat → Option ab_C) : ∀ y pc x1 ins len, abTh y pc x1 = true → decode (abCB y) pc = .ok (ins, len) → ab_E33 (abZ HS BS) y pc x1 ins len := by
  intro y pc x1 ins len h hd
  unfold abTh at h
  obtain ⟨h1, k0⟩ := ab_an h
  have e : pc = 4 := ab_beq h1
  subst e
  clear h h1
  rcases ab_if k0 with ⟨e1, e2⟩ | ⟨-, k1⟩
  · have e3 : y = 14 := ab_beq e1
    have e4 : x1 = 0 := ab_beq e2
    subst e3
    subst e4
    obtain ⟨d1, d2, d3, d4⟩ := abTh_d0
    obtain ⟨r1, r2, r3, r4⟩ := abTh_r0
    rw [d1] at hd
    cases hd
    exact ⟨rfl, ["java/lang/RuntimeException", "java/lang/Exception"], 281, 283, rfl, d2, d3, d4, r1, r2, abThW0, r3, r4⟩
  rcases ab_if k1 with ⟨e1, e2⟩ | ⟨-, k2⟩
  · have e3 : y = 12 := ab_beq e1
    have e4 : x1 = 1 := ab_beq e2
    subst e3
    subst e4
    obtain ⟨d1, d2, d3, d4⟩ := abTh_d1
    obtain ⟨r1, r2, r3, r4⟩ := abTh_r1
    rw [d1] at hd
    cases hd
    exact ⟨rfl, ["java/lang/RuntimeException", "java/lang/Exception"], 284, 286, rfl, d2, d3, d4, r1, r2, abThW1, r3, r4⟩
  rcases ab_if k2 with ⟨e1, e2⟩ | ⟨-, k3⟩
  · have e3 : y = 13 := ab_beq e1
    have e4 : x1 = 2 := ab_beq e2
    subst e3
    subst e4
    obtain ⟨d1, d2, d3, d4⟩ := abTh_d2
    obtain ⟨r1, r2, r3, r4⟩ := abTh_r2
    rw [d1] at hd
    cases hd
    exact ⟨rfl, ["java/lang/RuntimeException", "java/lang/Exception"], 287, 289, rfl, d2, d3, d4, r1, r2, abThW2, r3, r4⟩
  cases k3
theorem abHKw : Cond.classLink "TimberHouseLaw" 13 (abEN 0) ∈ abTW ∧ Cond.classLink "TimberHouseLaw" 15 (abEN 1) ∈ abTW ∧ Cond.classLink "TimberHouseLaw" 17 (abEN 2) ∈ abTW := ⟨ab_in5 208 rfl rfl, ab_in5 209 rfl rfl, ab_in5 210 rfl rfl⟩
theorem abHKt : (match ab_dr 13 (abP 315).1 with
    | [] => true
    | e :: _ => Nat.beq e.1 22) = true ∧ (match ab_dr 16 (abP 315).1 with
    | [] => true
    | e :: _ => Nat.beq e.1 26) = true ∧ (match ab_dr 19 (abP 315).1 with
    | [] => true
    | e :: _ => Nat.beq e.1 30) = true := ⟨by decide +kernel, by decide +kernel, by decide +kernel⟩
theorem abHKact (HS : Nat → Nat → Option ab_B) (BS : Nat → Option ab_C) : ab_HK (abZ HS BS) 315 := by
  have e1 : (abP 315).2.2.2 = [(0, 19, 0, 13), (0, 19, 1, 16), (0, 19, 2, 19)] := by decide +kernel
  have e2 : tableOf (abHT 315) = [⟨0, 19, 22, 13⟩, ⟨0, 19, 26, 15⟩, ⟨0, 19, 30, 17⟩] := by decide +kernel
  obtain ⟨w0, w1, w2⟩ := abHKw
  obtain ⟨t0, t1, t2⟩ := abHKt
  have cov : ∀ (x : ExceptionTableEntry) (pc : Nat), x.startPc = 0 → x.endPc = 19 → Nat.ble 0 pc = true → Nat.ble (pc + 1) 19 = true → covers x pc = true := fun x pc h1 h2 h3 h4 => by
    have h3 := ab_ble h3
    have h4 := ab_ble h4
    show (decide (x.startPc ≤ pc) && decide (pc < x.endPc)) = true
    rw [h1, h2, Bool.and_eq_true]
    exact ⟨decide_eq_true h3, decide_eq_true h4⟩
  refine ⟨fun h => ?_, fun pc e g hg => ?_⟩
  · have h' : (abP 315).2.2.2 = [] := h
    rw [e1] at h'
    cases h'
  · have hg' : ab_han pc e (abP 315).2.2.2 = some g := hg
    rw [e1] at hg'
    have g0 : (bif (bif Nat.ble 0 pc then (bif Nat.ble (pc + 1) 19 then Nat.beq 0 e else false) else false) then some 13 else bif (bif Nat.ble 0 pc then (bif Nat.ble (pc + 1) 19 then Nat.beq 1 e else false) else false) then some 16 else bif (bif Nat.ble 0 pc then (bif Nat.ble (pc + 1) 19 then Nat.beq 2 e else false) else false) then some 19 else none) = some g := hg'
    rcases ab_hif g0 with ⟨c, k9⟩ | g1
    · obtain ⟨a1, a2⟩ := ab_an c
      obtain ⟨a3, a4⟩ := ab_an a2
      have a5 : 0 = e := ab_beq a4
      have a6 : 13 = g := Option.some.inj k9
      clear hg hg' g0 c k9
      subst a5
      subst a6
      exact ⟨[], ⟨0, 19, 22, 13⟩, [⟨0, 19, 26, 15⟩, ⟨0, 19, 30, 17⟩], abEN 0, e2, fun z hz => absurd hz List.not_mem_nil, cov _ pc rfl rfl a1 a3, by decide, w0, abNWc 0 rfl, fun e r he => by
        have he' : ab_dr 13 (abP 315).1 = e :: r := he
        rw [he'] at t0
        exact ab_beq t0⟩
    rcases ab_hif g1 with ⟨c, k9⟩ | g2
    · obtain ⟨a1, a2⟩ := ab_an c
      obtain ⟨a3, a4⟩ := ab_an a2
      have a5 : 1 = e := ab_beq a4
      have a6 : 16 = g := Option.some.inj k9
      clear hg hg' g0 c k9
      subst a5
      subst a6
      exact ⟨[⟨0, 19, 22, 13⟩], ⟨0, 19, 26, 15⟩, [⟨0, 19, 30, 17⟩], abEN 1, e2, fun z hz => by
        rw [List.mem_singleton.mp hz]
        exact Or.inr ⟨by decide, _, w0, List.mem_cons_self⟩, cov _ pc rfl rfl a1 a3, by decide, w1, abNWc 1 rfl, fun e r he => by
        have he' : ab_dr 16 (abP 315).1 = e :: r := he
        rw [he'] at t1
        exact ab_beq t1⟩
    rcases ab_hif g2 with ⟨c, k9⟩ | g3
    · obtain ⟨a1, a2⟩ := ab_an c
      obtain ⟨a3, a4⟩ := ab_an a2
      have a5 : 2 = e := ab_beq a4
      have a6 : 19 = g := Option.some.inj k9
      clear hg hg' g0 c k9
      subst a5
      subst a6
      exact ⟨[⟨0, 19, 22, 13⟩, ⟨0, 19, 26, 15⟩], ⟨0, 19, 30, 17⟩, [], abEN 2, e2, fun z hz => by
        rcases List.mem_cons.mp hz with rfl | hz
        · exact Or.inr ⟨by decide, _, w0, List.mem_cons_of_mem _ List.mem_cons_self⟩
        · rw [List.mem_singleton.mp hz]
          exact Or.inr ⟨by decide, _, w1, List.mem_cons_of_mem _ (List.mem_cons_of_mem _ List.mem_cons_self)⟩, cov _ pc rfl rfl a1 a3, by decide, w2, abNWc 2 rfl, fun e r he => by
        have he' : ab_dr 19 (abP 315).1 = e :: r := he
        rw [he'] at t2
        exact ab_beq t2⟩
    cases g3
theorem abMK (HS : Nat → Nat → Option ab_B) (BS : Nat → Option ab_C) {y : Nat} (h : y < 630) (h0 : y ≠ 0) : ab_MK (abZ HS BS) y := by
  obtain ⟨⟨m1, m2⟩, m3, m4, -, -⟩ := abMF_ok y h h0
  have hd := List.all_eq_true.mp abHd y (List.mem_range.mpr h)
  obtain ⟨d1, d2⟩ := Bool.and_eq_true_iff.mp hd
  obtain ⟨d2, d3⟩ := Bool.and_eq_true_iff.mp d2
  refine ⟨m1, m2, ?_, m4, ?_, fun e r he => ?_⟩
  · show ab_cw (abZ HS BS) y ∈ abTW
    unfold ab_cw
    show (match abHT y with
      | [] => Cond.code (abY y) (abCB y) (abML y) (abRT y)
      | q :: r => Cond.codeWith (abY y) (abCB y) (abML y) (abRT y) (q :: r)) ∈ abTW
    cases hh : abHT y with
    | nil => rw [hh] at m3; exact m3
    | cons q r => rw [hh] at m3; exact m3
  · by_cases ha : y = 315
    · subst ha
      exact abHKact HS BS
    · have e1 : (abP y).2.2.2 = [] := by
        rcases Bool.or_eq_true_iff.mp d1 with q | q
        · exact absurd (ab_beq q) ha
        · exact List.isEmpty_iff.mp q
      have e2 : abHT y = [] := by
        rcases Bool.or_eq_true_iff.mp d3 with q | q
        · exact absurd (ab_beq q) ha
        · exact List.isEmpty_iff.mp q
      refine ⟨fun _ => e2, fun pc e g hg => ?_⟩
      have hg' : ab_han pc e (abP y).2.2.2 = some g := hg
      rw [e1] at hg'
      cases hg'
  · have he' : (abP y).1 = e :: r := he
    rw [he'] at d2
    exact ab_beq d2
theorem abLKb (HS : Nat → Nat → Option ab_B) (BS : Nat → Option ab_C) : ab_LKb (abZ HS BS) abK := by
  have rng : ∀ y2 i y, (ab_lk (abLM (abON y)) i = some y2 ∨ ab_lk (abLX (abON y)) i = some y2) → y2 < 630 ∧ y2 ≠ 0 := fun y2 i y h => by
    rcases h with h | h
    · have hb := ab_row_all abLM_b (show (i, y2) ∈ ab_row abLM_l (abON y) from ab_lk_mem h)
      obtain ⟨b1, b2⟩ := Bool.and_eq_true_iff.mp hb
      exact ⟨ab_ble b1, Nat.ne_of_gt (ab_ble b2)⟩
    · have hb := ab_row_all abLX_b (show (i, y2) ∈ ab_row abLX_l (abON y) from ab_lk_mem h)
      obtain ⟨b1, b2⟩ := Bool.and_eq_true_iff.mp hb
      exact ⟨ab_ble b1, Nat.ne_of_gt (ab_ble (Bool.and_eq_true_iff.mp b2).1)⟩
  refine ⟨fun y i y2 h => abLM_ok _ _ (ab_lk_mem h), fun y i y2 h => ?_, fun y i h => ?_, abObj, fun y i t h => ?_, fun y2 i y h => ?_, fun y i h => ?_, abThr HS BS⟩
  · have hm : (i, y2) ∈ abLX (abON y) := ab_lk_mem h
    have hb := ab_row_all abLX_b hm
    exact ⟨List.isEmpty_iff.mp (Bool.and_eq_true_iff.mp (Bool.and_eq_true_iff.mp hb).2).2, abLX_ok _ _ hm⟩
  · obtain ⟨v, hv⟩ := abHas_ok h
    exact abLJ_ok _ _ hv
  · have hm : (i, t) ∈ abLU (abON y) := ab_lk_mem h
    have ht := ab_ble (ab_row_all abLU_b hm)
    exact ⟨ht, abLU_ok _ _ hm, abFil t ht⟩
  · obtain ⟨r1, r2⟩ := rng y2 i y h
    obtain ⟨-, -, -, f1, f2⟩ := abMF_ok y2 r1 r2
    exact ⟨abMK HS BS r1 r2, f1, f2⟩
  · obtain ⟨v, hv⟩ := abHas_ok h
    exact ⟨abLC_ok _ _ hv, abCpy⟩
