/-! THE TABLES ARE RIGHT: lookups, and every method s rows. -/
noncomputable def abZ (HS : Nat → Nat → Option ab_B) (BS : Nat → Option ab_C) : ab_ZT := (abP, HS, abNF, abFT, BS, abY, abCB, abML, abRT, abFR, abLO, abTW, abNW, abEN, abCT, abcl, 23, abHT, abNX)
noncomputable def abON (y : Nat) : Nat := (abD y).1
noncomputable def abHas {α : Type} (l : List (Nat × α)) (i : Nat) : Bool := match ab_lk l i with
  | some _ => true
  | none => false
noncomputable def abTh (y pc x1 : Nat) : Bool := bif Nat.beq pc 4 then (bif Nat.beq y 14 then Nat.beq x1 0 else bif Nat.beq y 12 then Nat.beq x1 1 else bif Nat.beq y 13 then Nat.beq x1 2 else false) else false
noncomputable def abK : ab_KT := (fun y i => ab_lk (abLF (abON y)) i, fun y i => ab_lk (abLI (abON y)) i, fun y i => ab_lk (abLL (abON y)) i, fun y i => abHas (abLD (abON y)) i, fun y i => ab_lk (abLN (abON y)) i, fun y i => ab_lk (abLA (abON y)) i, fun y i => ab_lk (abLM (abON y)) i, fun y i => ab_lk (abLX (abON y)) i, fun y i => abHas (abLJ (abON y)) i, fun y i => ab_lk (abLU (abON y)) i, fun y => (abKP y).1, fun y => (abKP y).2, abTh, fun _ _ => false)
theorem ab_row_all {α : Type} {L : List (List α)} {f : α → Bool} (h : L.all (fun l => l.all f) = true) {o : Nat} {q : α} (hq : q ∈ ab_row L o) : f q = true := by
  unfold ab_row at hq
  cases hl : ab_at L o with
  | none => rw [hl] at hq; cases hq
  | some l =>
    rw [hl] at hq
    rw [ab_at_eq] at hl
    exact List.all_eq_true.mp (List.all_eq_true.mp h l (List.mem_of_getElem? hl)) q hq
theorem abHas_ok {α : Type} {l : List (Nat × α)} {i : Nat} (h : abHas l i = true) : ∃ v, (i, v) ∈ l := by
  unfold abHas at h
  cases hl : ab_lk l i with
  | none => rw [hl] at h; cases h
  | some v => exact ⟨v, ab_lk_mem hl⟩
theorem abLF_b : abLF_l.all (fun l => l.all (fun q => Nat.ble (q.2.1 + 1) 23 && Nat.ble (q.2.2 + 1) (abNF q.2.1))) = true := by decide +kernel
theorem abLN_b : abLN_l.all (fun l => l.all (fun q => Nat.ble (q.2 + 1) 23)) = true := by decide +kernel
theorem abLA_b : abLA_l.all (fun l => l.all (fun q => Nat.beq q.2 0 || (Nat.beq q.2 1 || Nat.beq q.2 5))) = true := by decide +kernel
theorem abLM_b : abLM_l.all (fun l => l.all (fun q => Nat.ble (q.2 + 1) 602 && Nat.ble 1 q.2)) = true := by decide +kernel
theorem abLX_b : abLX_l.all (fun l => l.all (fun q => Nat.ble (q.2 + 1) 602 && (Nat.ble 1 q.2 && (abHT q.2).isEmpty))) = true := by decide +kernel
theorem abLU_b : abLU_l.all (fun l => l.all (fun q => Nat.ble q.2 1)) = true := by decide +kernel
theorem abIn : ∀ ci, ci < 23 → Cond.instantiable (abCT ci).1 (abNF ci) ∈ abTW ∧ Cond.initialized (abCT ci).1 ∈ abTW
  | 0, _ => ⟨ab_in1 211 rfl rfl, ab_in1 5 rfl rfl⟩
  | 1, _ => ⟨ab_in2 115 rfl rfl, ab_in1 8 rfl rfl⟩
  | 2, _ => ⟨ab_in3 71 rfl rfl, ab_in1 12 rfl rfl⟩
  | 3, _ => ⟨ab_in3 140 rfl rfl, ab_in1 13 rfl rfl⟩
  | 4, _ => ⟨ab_in1 108 rfl rfl, ab_in1 3 rfl rfl⟩
  | 5, _ => ⟨ab_in3 12 rfl rfl, ab_in1 11 rfl rfl⟩
  | 6, _ => ⟨ab_in1 46 rfl rfl, ab_in1 2 rfl rfl⟩
  | 7, _ => ⟨ab_in2 182 rfl rfl, ab_in1 10 rfl rfl⟩
  | 8, _ => ⟨ab_in3 223 rfl rfl, ab_in1 14 rfl rfl⟩
  | 9, _ => ⟨ab_in2 121 rfl rfl, ab_in1 9 rfl rfl⟩
  | 10, _ => ⟨ab_in2 51 rfl rfl, ab_in1 7 rfl rfl⟩
  | 11, _ => ⟨ab_in1 38 rfl rfl, ab_in1 1 rfl rfl⟩
  | 12, _ => ⟨ab_in13 91 rfl rfl, ab_in1 18 rfl rfl⟩
  | 13, _ => ⟨ab_in14 55 rfl rfl, ab_in1 20 rfl rfl⟩
  | 14, _ => ⟨ab_in15 69 rfl rfl, ab_in1 23 rfl rfl⟩
  | 15, _ => ⟨ab_in15 178 rfl rfl, ab_in1 24 rfl rfl⟩
  | 16, _ => ⟨ab_in12 176 rfl rfl, ab_in1 17 rfl rfl⟩
  | 17, _ => ⟨ab_in14 233 rfl rfl, ab_in1 22 rfl rfl⟩
  | 18, _ => ⟨ab_in12 102 rfl rfl, ab_in1 16 rfl rfl⟩
  | 19, _ => ⟨ab_in14 124 rfl rfl, ab_in1 21 rfl rfl⟩
  | 20, _ => ⟨ab_in16 49 rfl rfl, ab_in1 25 rfl rfl⟩
  | 21, _ => ⟨ab_in13 210 rfl rfl, ab_in1 19 rfl rfl⟩
  | 22, _ => ⟨ab_in12 96 rfl rfl, ab_in1 15 rfl rfl⟩
  | _ + 23, h => absurd h (by omega)
theorem abLKa (HS : Nat → Nat → Option ab_B) (BS : Nat → Option ab_C) : ab_LKa (abZ HS BS) abK := by
  refine ⟨fun y i ci f h => ?_, fun y i z h => ?_, fun y i z h => ?_, fun y i h => ?_, fun y i ci h => ?_, fun y i t h => ?_, abAC⟩
  · have hm : (i, (ci, f)) ∈ abLF (abON y) := ab_lk_mem h
    have hb := ab_row_all abLF_b hm
    obtain ⟨b1, b2⟩ := Bool.and_eq_true_iff.mp hb
    exact ⟨abLF_ok _ _ hm, ab_ble b2, abCL ci (ab_ble b1)⟩
  · exact abLI_ok _ _ (ab_lk_mem h)
  · exact abLL_ok _ _ (ab_lk_mem h)
  · obtain ⟨v, hv⟩ := abHas_ok h
    exact abLD_ok _ _ hv
  · have hm : (i, ci) ∈ abLN (abON y) := ab_lk_mem h
    have hb : ci < 23 := ab_ble (ab_row_all abLN_b hm)
    exact ⟨abLN_ok _ _ hm, (abIn ci hb).1, (abIn ci hb).2, abCL ci hb⟩
  · have hm : (i, t) ∈ abLA (abON y) := ab_lk_mem h
    have hw : Cond.classLink (abCS (abON y)) i (abAn t) ∈ abTW := abLA_ok _ _ hm
    refine ⟨fun ht => ?_, fun ht => ?_⟩
    · match t, ht, hw with
      | 0, _, hw => exact hw
      | 1, _, hw => exact hw
      | _ + 2, ht, _ => omega
    · subst ht
      exact hw
theorem abHd : (List.range 602).all (fun y => (Nat.beq y 307 || (abP y).2.2.2.isEmpty) && ((match (abP y).1 with
    | [] => true
    | e :: _ => Nat.beq e.1 0) && (Nat.beq y 307 || (abHT y).isEmpty))) = true := by decide +kernel
theorem abThr (HS : Nat → Nat → Option ab_B) (BS : Nat → Option ab_C) : ∀ y pc x1 ins len, abTh y pc x1 = true → decode (abCB y) pc = .ok (ins, len) → ab_E33 (abZ HS BS) y pc x1 ins len := by
  sorry
theorem abHKact (HS : Nat → Nat → Option ab_B) (BS : Nat → Option ab_C) : ab_HK (abZ HS BS) 307 := by
  sorry
theorem abMK (HS : Nat → Nat → Option ab_B) (BS : Nat → Option ab_C) {y : Nat} (h : y < 602) (h0 : y ≠ 0) : ab_MK (abZ HS BS) y := by
  obtain ⟨⟨m1, m2⟩, m3, m4, -, -⟩ := abMF_ok y h h0
  have hd := List.all_eq_true.mp abHd y (List.mem_range.mpr h)
  obtain ⟨d1, d2⟩ := Bool.and_eq_true_iff.mp hd
  obtain ⟨d2, d3⟩ := Bool.and_eq_true_iff.mp d2
  refine ⟨m1, m2, ?_, m4, ?_, fun e r he => ?_⟩
  · show ab_cw (abZ HS BS) y ∈ abTW
    unfold ab_cw
    show (match abHT y with
      | [] => Cond.code (abY y) (abCB y) (abML y) (abRT y)
      | q :: r => Cond.codeWith (abY y) (abCB y) (abML y) (abRT y) (q :: r)) ∈ abTW
    cases hh : abHT y with
    | nil => rw [hh] at m3; exact m3
    | cons q r => rw [hh] at m3; exact m3
  · by_cases ha : y = 307
    · subst ha
      exact abHKact HS BS
    · have e1 : (abP y).2.2.2 = [] := by
        rcases Bool.or_eq_true_iff.mp d1 with q | q
        · exact absurd (ab_beq q) ha
        · exact List.isEmpty_iff.mp q
      have e2 : abHT y = [] := by
        rcases Bool.or_eq_true_iff.mp d3 with q | q
        · exact absurd (ab_beq q) ha
        · exact List.isEmpty_iff.mp q
      refine ⟨fun _ => e2, fun pc e g hg => ?_⟩
      have hg' : ab_han pc e (abP y).2.2.2 = some g := hg
      rw [e1] at hg'
      cases hg'
  · have he' : (abP y).1 = e :: r := he
    rw [he'] at d2
    exact ab_beq d2
theorem abLKb (HS : Nat → Nat → Option ab_B) (BS : Nat → Option ab_C) : ab_LKb (abZ HS BS) abK := by
  have rng : ∀ y2 i y, (ab_lk (abLM (abON y)) i = some y2 ∨ ab_lk (abLX (abON y)) i = some y2) → y2 < 602 ∧ y2 ≠ 0 := fun y2 i y h => by
    rcases h with h | h
    · have hb := ab_row_all abLM_b (show (i, y2) ∈ ab_row abLM_l (abON y) from ab_lk_mem h)
      obtain ⟨b1, b2⟩ := Bool.and_eq_true_iff.mp hb
      exact ⟨ab_ble b1, Nat.ne_of_gt (ab_ble b2)⟩
    · have hb := ab_row_all abLX_b (show (i, y2) ∈ ab_row abLX_l (abON y) from ab_lk_mem h)
      obtain ⟨b1, b2⟩ := Bool.and_eq_true_iff.mp hb
      exact ⟨ab_ble b1, Nat.ne_of_gt (ab_ble (Bool.and_eq_true_iff.mp b2).1)⟩
  refine ⟨fun y i y2 h => abLM_ok _ _ (ab_lk_mem h), fun y i y2 h => ?_, fun y i h => ?_, abObj, fun y i t h => ?_, fun y2 i y h => ?_, abThr HS BS⟩
  · have hm : (i, y2) ∈ abLX (abON y) := ab_lk_mem h
    have hb := ab_row_all abLX_b hm
    exact ⟨List.isEmpty_iff.mp (Bool.and_eq_true_iff.mp (Bool.and_eq_true_iff.mp hb).2).2, abLX_ok _ _ hm⟩
  · obtain ⟨v, hv⟩ := abHas_ok h
    exact abLJ_ok _ _ hv
  · have hm : (i, t) ∈ abLU (abON y) := ab_lk_mem h
    exact ⟨ab_ble (ab_row_all abLU_b hm), abLU_ok _ _ hm⟩
  · obtain ⟨r1, r2⟩ := rng y2 i y h
    obtain ⟨-, -, -, f1, f2⟩ := abMF_ok y2 r1 r2
    exact ⟨abMK HS BS r1 r2, f1, f2⟩
