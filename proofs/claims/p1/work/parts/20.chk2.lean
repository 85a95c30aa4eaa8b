/-! THE CHECK IS SOUND. -/
section CK
variable {Z : ab_ZT} {K : ab_KT} {y pc cl : Nat} {A : Int} {x1 x2 : Nat} {Xs : List Nat} {rest : List ab_E} {ins : Instr} {len : Nat}
theorem ab_inR_ok {k : Nat} {A : Int} (h : ab_inR k A A = true) : ab_R k A := ab_inR_iff k A A h
theorem ab_q0_ok (hA : ab_LKa Z K) (h : ab_q0 K y ins len A = true) : ab_EK Z y pc 0 A x1 x2 Xs rest ins len := by
  obtain ⟨h1, h2⟩ := ab_an h
  refine ⟨ab_inR_ok h1, ?_⟩
  split at h2
  · obtain ⟨q1, q2⟩ := ab_an h2
    exact Or.inl ⟨of_decide_eq_true q1, ab_beq q2⟩
  · obtain ⟨q1, q2⟩ := ab_an h2
    exact Or.inl ⟨of_decide_eq_true q1, ab_beq q2⟩
  · obtain ⟨q1, q2⟩ := ab_an h2
    exact Or.inl ⟨of_decide_eq_true q1, ab_beq q2⟩
  · rename_i i
    split at h2
    · rename_i z hz
      obtain ⟨q1, q2⟩ := ab_an h2
      have e := (ab_eq_iff _ _).mp q1
      subst e
      exact Or.inr ⟨i, Or.inl ⟨rfl, ab_beq q2⟩, hA.2.1 _ _ _ hz⟩
    · cases h2
  · rename_i i
    split at h2
    · rename_i z hz
      obtain ⟨q1, q2⟩ := ab_an h2
      have e := (ab_eq_iff _ _).mp q1
      subst e
      exact Or.inr ⟨i, Or.inr ⟨rfl, ab_beq q2⟩, hA.2.1 _ _ _ hz⟩
    · cases h2
  · cases h2
theorem ab_q1_ok (hA : ab_LKa Z K) (h : ab_q1 K y ins len A = true) : ab_EK Z y pc 1 A x1 x2 Xs rest ins len := by
  obtain ⟨h1, h2⟩ := ab_an h
  refine ⟨ab_inR_ok h1, ?_⟩
  split at h2
  · rename_i n
    obtain ⟨q1, q2⟩ := ab_an h2
    exact Or.inl ⟨n, rfl, ab_beq q2, of_decide_eq_true q1⟩
  · rename_i i
    split at h2
    · rename_i z hz
      obtain ⟨q1, q2⟩ := ab_an h2
      have e := (ab_eq_iff _ _).mp q1
      subst e
      exact Or.inr ⟨i, rfl, ab_beq q2, hA.2.2.1 _ _ _ hz⟩
    · cases h2
  · cases h2
theorem ab_q2_ok (hA : ab_LKa Z K) (h : ab_q2 K y ins len = true) : ab_EK Z y pc 2 A x1 x2 Xs rest ins len := by
  unfold ab_q2 at h
  split at h
  · rename_i i
    obtain ⟨q1, q2⟩ := ab_an h
    exact ⟨i, rfl, ab_beq q2, hA.2.2.2.1 _ _ q1⟩
  · cases h
theorem ab_q3_ok (h : ab_q3 ins len x1 x2 = true) : ab_EK Z y pc 3 A x1 x2 Xs rest ins len := by
  show ab_k3 ins len x1 x2
  unfold ab_q3 at h
  split at h
  all_goals first | (cases h; done) | (obtain ⟨q1, q2⟩ := ab_an h; obtain ⟨q3, q4⟩ := ab_an q2; exact ⟨ab_beq q1, ab_beq q3, ab_beq q4⟩)
theorem ab_q4_ok (h : ab_q4 ins len x1 x2 (ab_zML Z y) = true) : ab_EK Z y pc 4 A x1 x2 Xs rest ins len := by
  show ab_k4 ins len x1 x2 ∧ _
  unfold ab_q4 at h
  split at h
  all_goals first | (cases h; done) | (obtain ⟨q1, q2⟩ := ab_an h; obtain ⟨q3, q4⟩ := ab_an q2; obtain ⟨q5, q6⟩ := ab_an q4; refine ⟨⟨ab_beq q1, ab_beq q3, ab_beq q5⟩, ?_⟩; have e1 := ab_beq q1; have e2 := ab_ble q6; omega)
theorem ab_q5_ok (h : ab_q5 ins len x1 (ab_zML Z y) A = true) : ab_EK Z y pc 5 A x1 x2 Xs rest ins len := by
  unfold ab_q5 at h
  split at h
  · obtain ⟨q1, q2⟩ := ab_an h
    obtain ⟨q3, q4⟩ := ab_an q2
    obtain ⟨q5, q6⟩ := ab_an q4
    obtain ⟨q7, q8⟩ := ab_an q6
    exact ⟨by rw [ab_beq q1, (ab_eq_iff _ _).mp q3], ab_beq q5, ab_ble q7, ab_inR_ok q8⟩
  · cases h
theorem ab_q6_ok (h : ab_q6 ins len x1 x2 = true) : ab_EK Z y pc 6 A x1 x2 Xs rest ins len := by
  obtain ⟨h1, h2⟩ := ab_an h
  refine ⟨?_, ab_beq h1⟩
  split at h2
  all_goals first | (cases h2; done) | (obtain ⟨q1, q2⟩ := ab_an h2; exact ⟨ab_beq q1, ab_beq q2⟩)
theorem ab_q7_ok (h : ab_q7 ins len x1 = true) : ab_EK Z y pc 7 A x1 x2 Xs rest ins len := by
  obtain ⟨h1, h2⟩ := ab_an h
  refine ⟨ab_beq h1, ?_⟩
  split at h2
  · exact Or.inl ⟨rfl, ab_beq h2⟩
  · exact Or.inr ⟨rfl, ab_beq h2⟩
  · cases h2
theorem ab_q20_ok (h : ab_q20 Z y pc len ins x1 = true) : ab_EK Z y pc 20 A x1 x2 Xs rest ins len := by
  obtain ⟨h1, h2⟩ := ab_an h
  refine ⟨ab_beq h1, ?_⟩
  split at h2
  · rename_i off
    obtain ⟨q1, q2⟩ := ab_an h2
    have e := (ab_le_iff _ _).mp q1
    exact ⟨off, ((pc : Int) + off).toNat, rfl, by omega, ab_tgb_ok q2 _ (by omega)⟩
  · cases h2
theorem ab_q21_ok (h : ab_q21 Z y pc len ins x1 x2 = true) : len = 3 ∧ x1 ≤ 5 ∧ ∃ off tgt, ins = .ifCond (ab_cn x1) off ∧ (pc : Int) + off = (tgt : Nat) ∧ ab_tg Z y x2 tgt := by
  obtain ⟨h1, h2⟩ := ab_an h
  split at h2
  · rename_i d off
    obtain ⟨q0, q2⟩ := ab_an h2
    obtain ⟨q1, q2⟩ := ab_an q2
    obtain ⟨c1, c2⟩ := ab_cb_ok q0
    have e := (ab_le_iff _ _).mp q1
    exact ⟨ab_beq h1, c1, off, ((pc : Int) + off).toNat, by rw [c2], by omega, ab_tgb_ok q2 _ (by omega)⟩
  · cases h2
theorem ab_q22_ok (h : ab_q22 Z y pc len ins x1 x2 = true) : ab_EK Z y pc 22 A x1 x2 Xs rest ins len := by
  obtain ⟨h1, h2⟩ := ab_an h
  split at h2
  · rename_i d off
    obtain ⟨q0, q2⟩ := ab_an h2
    obtain ⟨q1, q2⟩ := ab_an q2
    obtain ⟨c1, c2⟩ := ab_cb_ok q0
    have e := (ab_le_iff _ _).mp q1
    exact ⟨ab_beq h1, c1, off, ((pc : Int) + off).toNat, by rw [c2], by omega, ab_tgb_ok q2 _ (by omega)⟩
  · cases h2
theorem ab_q23_ok (h : ab_q23 Z y pc len ins x1 x2 rest = true) : ab_EK Z y pc 23 A x1 x2 Xs rest ins len := by
  obtain ⟨h1, h2⟩ := ab_an h
  split at h2
  · split at h2
    · rename_i i2 l2 hd2
      obtain ⟨q1, q2⟩ := ab_an h2
      obtain ⟨e1, e2, off, tgt, e3, e4, e5⟩ := ab_q21_ok q1
      subst e1
      subst e3
      refine ⟨ab_beq h1, rfl, e2, off, tgt, hd2, e4, e5, fun e2 e3 r3 hr => ?_⟩
      subst hr
      exact ab_beq q2
    · cases h2
  · cases h2
theorem ab_q24b_ok {offs : Array Int} : ∀ {Xs : List Nat} {j : Nat}, ab_q24b Z y pc offs Xs j = true → ∀ i t, ab_at Xs i = some t → ∃ off t2, offs[j + i]? = some off ∧ (pc : Int) + off = (t2 : Nat) ∧ ab_tg Z y t t2
  | [], _, _, i, t, hi => by cases hi
  | t0 :: Xs, j, h, i, t, hi => by
    have h' : (bif (match offs[j]? with
      | some off => bif ab_le 0 ((pc : Int) + off) then ab_tgb Z y t0 ((pc : Int) + off) else false
      | none => false) then ab_q24b Z y pc offs Xs (j + 1) else false) = true := h
    obtain ⟨q1, q2⟩ := ab_an h'
    cases i with
    | zero =>
      have e0 : t0 = t := Option.some.inj hi
      subst e0
      cases ho : offs[j]? with
      | none => rw [ho] at q1; cases q1
      | some off =>
        rw [ho] at q1
        obtain ⟨q3, q4⟩ := ab_an q1
        have e := (ab_le_iff _ _).mp q3
        exact ⟨off, ((pc : Int) + off).toNat, by first | rfl | exact ho, by omega, ab_tgb_ok q4 _ (by omega)⟩
    | succ i =>
      obtain ⟨off, t2, o1, o2, o3⟩ := ab_q24b_ok q2 i t hi
      exact ⟨off, t2, by rw [show j + (i + 1) = j + 1 + i by omega]; exact o1, o2, o3⟩
theorem ab_q24_ok (h : ab_q24 Z y pc ins A x1 Xs = true) : ab_EK Z y pc 24 A x1 x2 Xs rest ins len := by
  unfold ab_q24 at h
  split at h
  · rename_i dflt lo hi offs
    obtain ⟨q1, q2⟩ := ab_an h
    obtain ⟨q3, q4⟩ := ab_an q2
    obtain ⟨q5, q6⟩ := ab_an q4
    obtain ⟨q7, q8⟩ := ab_an q6
    have e := (ab_le_iff _ _).mp q5
    refine ⟨dflt, lo, hi, offs, ((pc : Int) + dflt).toNat, rfl, (ab_eq_iff _ _).mp q1, (ab_eq_iff _ _).mp q3, by omega, ab_tgb_ok q7 _ (by omega), fun j t hj => ?_⟩
    have := ab_q24b_ok q8 j t hj
    rw [Nat.zero_add] at this
    exact this
  · cases h
theorem ab_q25_ok (h : ab_q25 Z y pc ins A x1 = true) : ab_EK Z y pc 25 A x1 x2 Xs rest ins len := by
  unfold ab_q25 at h
  split at h
  · rename_i dflt ps
    obtain ⟨q1, q2⟩ := ab_an h
    obtain ⟨q3, q4⟩ := ab_an q2
    have q5 := (ab_le_iff _ _).mp q3
    exact ⟨dflt, ps, _, ((pc : Int) + Op.lookupswitch.offset ps.toList dflt A).toNat, rfl, q1, rfl, by omega, ab_tgb_ok q4 _ (by omega)⟩
  · cases h
theorem ab_q30_ok (hA : ab_LKa Z K) (h : ab_q30 Z K y len ins A x1 x2 = true) : ab_EL Z y pc 30 A x1 x2 Xs ins len := by
  obtain ⟨h1, h2⟩ := ab_an h
  split at h2
  · rename_i i
    split at h2
    · rename_i ci f hf
      obtain ⟨q1, q2⟩ := ab_an h2
      obtain ⟨q3, q4⟩ := ab_an q2
      have e1 : ci = x1 := ab_beq q1
      have e2 : f = x2 := ab_beq q3
      subst e1
      subst e2
      obtain ⟨w1, w2, w3⟩ := hA.1 _ _ _ _ hf
      exact ⟨ab_beq h1, i, rfl, w1, w2, ab_beq q4, w3⟩
    · cases h2
  · cases h2
theorem ab_q31_ok (hA : ab_LKa Z K) (h : ab_q31 Z K y len ins A x1 x2 = true) : ab_EL Z y pc 31 A x1 x2 Xs ins len := by
  obtain ⟨h1, h2⟩ := ab_an h
  split at h2
  · rename_i i
    split at h2
    · rename_i ci f hf
      obtain ⟨q1, q2⟩ := ab_an h2
      obtain ⟨q3, q4⟩ := ab_an q2
      obtain ⟨q5, q6⟩ := ab_an q4
      have e1 : ci = x1 := ab_beq q1
      have e2 : f = x2 := ab_beq q3
      subst e1
      subst e2
      obtain ⟨w1, w2, w3⟩ := hA.1 _ _ _ _ hf
      refine ⟨ab_beq h1, i, rfl, w1, w2, ab_beq q5, w3, fun hq => ?_⟩
      rw [hq, cond_true] at q6
      obtain ⟨q7, q8⟩ := ab_an q6
      exact ⟨of_decide_eq_true q7, of_decide_eq_true q8⟩
    · cases h2
  · cases h2
theorem ab_q32_ok (hA : ab_LKa Z K) (h : ab_q32 K y len ins x1 = true) : ab_EL Z y pc 32 A x1 x2 Xs ins len := by
  obtain ⟨h1, h2⟩ := ab_an h
  split at h2
  · rename_i i
    split at h2
    · rename_i ci hf
      have e1 : ci = x1 := ab_beq h2
      subst e1
      obtain ⟨w1, w2, w3, w4⟩ := hA.2.2.2.2.1 _ _ _ hf
      exact ⟨ab_beq h1, i, rfl, w1, w2, w3, w4⟩
    · cases h2
  · cases h2
theorem ab_q34_ok (hA : ab_LKa Z K) (h : ab_q34 len ins x1 = true) : ab_EL Z y pc 34 A x1 x2 Xs ins len := by
  obtain ⟨h1, h2⟩ := ab_an h
  split at h2
  · have e := ab_beq h2; subst e; exact ⟨ab_beq h1, ⟨rfl, by omega⟩, hA.2.2.2.2.2.2 0 (by omega)⟩
  · have e := ab_beq h2; subst e; exact ⟨ab_beq h1, ⟨rfl, by omega⟩, hA.2.2.2.2.2.2 1 (by omega)⟩
  · have e := ab_beq h2; subst e; exact ⟨ab_beq h1, ⟨rfl, by omega⟩, hA.2.2.2.2.2.2 2 (by omega)⟩
  · cases h2
theorem ab_q35_ok (hA : ab_LKa Z K) (h : ab_q35 K y len ins x1 = true) : ab_E35 Z y x1 ins len := by
  obtain ⟨h1, h2⟩ := ab_an h
  split at h2
  · rename_i i
    split at h2
    · rename_i t ht
      obtain ⟨q1, q2⟩ := ab_an h2
      have e1 := ab_ble q1
      have e2 : x1 = t + 3 := ab_beq q2
      subst e2
      refine ⟨ab_beq h1, by omega, i, rfl, ?_, ?_⟩
      · rw [show t + 3 - 3 = t by omega]
        exact (hA.2.2.2.2.2.1 _ _ _ ht).1 e1
      · rw [show t + 3 - 3 = t by omega]
        exact hA.2.2.2.2.2.2 t (by omega)
    · cases h2
  · cases h2
theorem ab_q36_ok (hA : ab_LKa Z K) (h : ab_q36 K y len ins = true) : ab_EL Z y pc 36 A x1 x2 Xs ins len := by
  obtain ⟨h1, h2⟩ := ab_an h
  split at h2
  · rename_i i
    split at h2
    · rename_i t ht
      exact ⟨ab_beq h1, i, rfl, (hA.2.2.2.2.2.1 _ _ _ ht).2 (ab_beq h2)⟩
    · cases h2
  · cases h2
theorem ab_q38_ok (h : ab_q38 len ins x1 = true) : ab_EL Z y pc 38 A x1 x2 Xs ins len := by
  obtain ⟨h1, h2⟩ := ab_an h
  split at h2
  · have e := ab_beq h2; subst e; exact ⟨ab_beq h1, Or.inr ⟨by omega, rfl⟩⟩
  · have e := ab_beq h2; subst e; exact ⟨ab_beq h1, Or.inr ⟨by omega, rfl⟩⟩
  · have e := ab_beq h2; subst e; exact ⟨ab_beq h1, Or.inr ⟨by omega, rfl⟩⟩
  · have e := ab_beq h2; subst e; exact ⟨ab_beq h1, Or.inl ⟨rfl, rfl⟩⟩
  · cases h2
theorem ab_q39_ok (h : ab_q39 len ins x1 = true) : ab_EL Z y pc 39 A x1 x2 Xs ins len := by
  obtain ⟨h1, h2⟩ := ab_an h
  split at h2
  · have e := ab_beq h2; subst e; exact ⟨ab_beq h1, rfl⟩
  · have e := ab_beq h2; subst e; exact ⟨ab_beq h1, rfl⟩
  · have e := ab_beq h2; subst e; exact ⟨ab_beq h1, rfl⟩
  · cases h2
theorem ab_q41_ok (hB : ab_LKb Z K) (h : ab_q41 Z K y len ins = true) : ab_EL Z y pc 41 A x1 x2 Xs ins len := by
  obtain ⟨h1, h2⟩ := ab_an h
  split at h2
  · rename_i i
    obtain ⟨q1, q2⟩ := ab_an h2
    obtain ⟨q3, q4⟩ := ab_an q2
    exact ⟨ab_beq h1, ab_ble q3, ab_ble q4, i, rfl, hB.2.2.1 _ _ q1, hB.2.2.2.1.1, hB.2.2.2.1.2⟩
  · cases h2
theorem ab_q42_ok (hB : ab_LKb Z K) (h : ab_q42 Z K y len ins x1 = true) : ab_E42 Z y x1 ins len := by
  obtain ⟨h1, h2⟩ := ab_an h
  obtain ⟨h1, h3⟩ := ab_an h1
  obtain ⟨h3, h4⟩ := ab_an h3
  split at h2
  · rename_i i
    split at h2
    · rename_i t ht
      have e : t = x1 := ab_beq h2
      subst e
      obtain ⟨w1, w2⟩ := hB.2.2.2.2.1 _ _ _ ht
      exact ⟨ab_beq h1, w1, ab_ble h3, ab_ble h4, i, rfl, w2⟩
    · cases h2
  · cases h2
theorem ab_q43_ok (hB : ab_LKb Z K) (h : ab_q43 Z K y len ins = true) : ab_E43 Z y ins len := by
  obtain ⟨h1, h2⟩ := ab_an h
  obtain ⟨h1, h3⟩ := ab_an h1
  obtain ⟨h3, h4⟩ := ab_an h3
  split at h2
  · rename_i i
    exact ⟨ab_beq h1, ab_ble h3, ab_ble h4, i, rfl, hB.2.2.2.2.2.2.1 _ _ h2⟩
  · cases h2
theorem ab_lnk_ok {i y2 : Nat} (h : ab_lnk K y i y2 = true) : ab_kM K y i = some y2 ∨ ab_kX K y i = some y2 := by
  unfold ab_lnk at h
  cases hm : ab_kM K y i with
  | some z =>
    rw [hm] at h
    rw [show z = y2 from ab_beq h]
    exact Or.inl rfl
  | none =>
    rw [hm] at h
    dsimp only at h
    cases hx : ab_kX K y i with
    | some z =>
      rw [hx] at h
      rw [show z = y2 from ab_beq h]
      exact Or.inr rfl
    | none => rw [hx] at h; cases h
theorem ab_q40_ok (hB : ab_LKb Z K) (hCL : ∀ ci, ci < ab_zNC Z → ab_CL (ab_zcl Z) (ab_zNF Z) (ab_zFT Z) (ab_zTW Z) ci (ab_zCT Z ci).1 (ab_zCT Z ci).2) {y2 n vc mx : Nat} (h : ab_q40 Z K y len ins y2 n vc mx = true) : ab_EC Z y ins len y2 n vc mx := by
  obtain ⟨h1, h2⟩ := ab_an h
  obtain ⟨q1, q2⟩ := ab_an h1
  obtain ⟨q3, q4⟩ := ab_an q2
  obtain ⟨q5, q6⟩ := ab_an q4
  have base : ∀ i, ab_lnk K y i y2 = true → ab_MK Z y2 ∧ (parseMethodDescriptor (ab_zY Z y2).desc).map (fun d => d.parameters.length) = some (ab_kP K y2) ∧ (((ab_kK K y2 = 0 ∧ Cond.static (ab_zY Z y2) ∈ ab_zTW Z) ∨ (ab_kK K y2 = 1 ∧ ab_zHT Z y2 = [] ∧ Cond.instanceMethod (ab_zY Z y2) ∈ ab_zTW Z ∧ Cond.selects (ab_zY Z y2).cls (ab_zY Z y2) (ab_zY Z y2) ∈ ab_zTW Z) ∨ (ab_kK K y2 = 2 ∧ ab_zHT Z y2 = [] ∧ ab_zRT Z y2 = none ∧ (ab_zY Z y2).name = "<init>" ∧ Cond.instanceMethod (ab_zY Z y2) ∈ ab_zTW Z))) ∧
      (Cond.methodLink (ab_zY Z y).cls i (ab_zY Z y2) ∈ ab_zTW Z ∨ (ab_zHT Z y2 = [] ∧ ∃ host, Cond.methodLinkNest (ab_zY Z y).cls i (ab_zY Z y2) host ∈ ab_zNW Z)) := fun i hi => by
    have hl := ab_lnk_ok hi
    obtain ⟨w1, w2, w3⟩ := hB.2.2.2.2.2.1 _ _ _ hl
    refine ⟨w1, w2, w3, ?_⟩
    rcases hl with hl | hl
    · exact Or.inl (hB.1 _ _ _ hl)
    · exact Or.inr (hB.2.1 _ _ _ hl)
  split at h2
  · rename_i i
    obtain ⟨g1, g2⟩ := ab_an h2
    obtain ⟨g3, g4⟩ := ab_an g2
    have hk : ab_kK K y2 = 0 := ab_beq g3
    obtain ⟨w1, w2, w3, w4⟩ := base i g1
    refine ⟨ab_beq q1, ab_ble q3, ab_ble q5, ab_beq q6, w1, i, _, w2, Or.inl ⟨rfl, ?_, ab_beq g4, w4⟩⟩
    rcases w3 with ⟨_, w⟩ | ⟨e, _⟩ | ⟨e, _⟩
    · exact w
    · omega
    · omega
  · rename_i i
    obtain ⟨g1, g2⟩ := ab_an h2
    obtain ⟨g3, g4⟩ := ab_an g2
    obtain ⟨g5, g6⟩ := ab_an g4
    have hk : ab_kK K y2 = 1 := ab_beq g3
    obtain ⟨w1, w2, w3, w4⟩ := base i g1
    cases vc with
    | zero => cases g6
    | succ ci =>
      obtain ⟨g7, g8⟩ := ab_an g6
      have hcl := hCL ci (ab_ble g7)
      have ec : (ab_zCT Z ci).1 = (ab_zY Z y2).cls := of_decide_eq_true g8
      rw [ec] at hcl
      rcases w3 with ⟨e, _⟩ | ⟨_, z1, z2, z3⟩ | ⟨e, _⟩
      · omega
      · refine ⟨ab_beq q1, ab_ble q3, ab_ble q5, ab_beq q6, w1, i, _, w2, Or.inr (Or.inl ⟨z1, rfl, z2, z3, ab_beq g5, ⟨ci, rfl, hcl⟩, ?_⟩)⟩
        rcases w4 with w | ⟨_, w⟩
        · exact Or.inl w
        · exact Or.inr w
      · omega
  · rename_i i
    obtain ⟨g1, g2⟩ := ab_an h2
    obtain ⟨g3, g4⟩ := ab_an g2
    obtain ⟨g5, g6⟩ := ab_an g4
    have hk : ab_kK K y2 = 2 := ab_beq g3
    obtain ⟨w1, w2, w3, w4⟩ := base i g1
    cases vc with
    | zero => cases g6
    | succ ci =>
      rcases w3 with ⟨e, _⟩ | ⟨e, _⟩ | ⟨_, z1, z2, z3, z4⟩
      · omega
      · omega
      · refine ⟨ab_beq q1, ab_ble q3, ab_ble q5, ab_beq q6, w1, i, _, w2, Or.inr (Or.inr ⟨z1, ⟨ci, rfl⟩, z2, rfl, z3, z4, ab_beq g5, ?_⟩)⟩
        rcases w4 with w | ⟨_, w⟩
        · exact Or.inl w
        · exact Or.inr w
  · cases h2
theorem ab_q50_ok (h : ab_q50 Z y cl x1 len ins = true) : (cl = 50 ∨ cl = 51 ∨ cl = 52) ∧ ab_EL Z y pc cl A x1 x2 Xs ins len := by
  obtain ⟨h1, h2⟩ := ab_an h
  have hl : len = 1 := ab_beq h1
  split at h2
  · rename_i hr
    have e := ab_beq h2; subst e
    exact ⟨Or.inl rfl, hl, rfl, hr⟩
  · rename_i hr
    obtain ⟨q1, q2⟩ := ab_an h2
    have e := ab_beq q1; subst e
    exact ⟨Or.inr (Or.inl rfl), hl, Or.inl ⟨rfl, ab_beq q2, hr⟩⟩
  · rename_i hr
    have e := ab_beq h2; subst e
    exact ⟨Or.inr (Or.inr rfl), hl, rfl, hr⟩
  · rename_i hr
    obtain ⟨q1, q2⟩ := ab_an h2
    have e := ab_beq q1; subst e
    exact ⟨Or.inr (Or.inl rfl), hl, Or.inr (Or.inl ⟨rfl, ab_beq q2, hr⟩)⟩
  · rename_i hr
    obtain ⟨q1, q2⟩ := ab_an h2
    have e := ab_beq q1; subst e
    exact ⟨Or.inr (Or.inl rfl), hl, Or.inr (Or.inr ⟨rfl, ab_beq q2, _, hr, Or.inl ⟨_, rfl⟩⟩)⟩
  · rename_i hr
    obtain ⟨q1, q2⟩ := ab_an h2
    have e := ab_beq q1; subst e
    exact ⟨Or.inr (Or.inl rfl), hl, Or.inr (Or.inr ⟨rfl, ab_beq q2, _, hr, Or.inr ⟨_, rfl⟩⟩)⟩
  · cases h2
theorem ab_q8_ok (h : ab_q8 cl len ins = true) : (cl ≠ 40 ∧ cl ≠ 33 ∧ cl ≠ 35 ∧ cl ≠ 42 ∧ cl ≠ 43) ∧ ab_EK Z y pc cl A x1 x2 Xs rest ins len ∧ ab_EL Z y pc cl A x1 x2 Xs ins len ∧ ab_EM Z y pc cl A x1 x2 Xs ins len := by
  obtain ⟨h1, h2⟩ := ab_an h
  have hl : len = 1 := ab_beq h1
  subst hl
  split at h2
  · have e := ab_beq h2; subst e; exact ⟨by omega, ⟨rfl, rfl⟩, trivial, trivial⟩
  · have e := ab_beq h2; subst e; exact ⟨by omega, ⟨rfl, rfl⟩, trivial, trivial⟩
  · have e := ab_beq h2; subst e; exact ⟨by omega, ⟨rfl, rfl⟩, trivial, trivial⟩
  · have e := ab_beq h2; subst e; exact ⟨by omega, ⟨rfl, rfl⟩, trivial, trivial⟩
  · have e := ab_beq h2; subst e; exact ⟨by omega, ⟨rfl, rfl⟩, trivial, trivial⟩
  · have e := ab_beq h2; subst e; exact ⟨by omega, ⟨rfl, rfl⟩, trivial, trivial⟩
  · have e := ab_beq h2; subst e; exact ⟨by omega, ⟨rfl, rfl⟩, trivial, trivial⟩
  · have e := ab_beq h2; subst e; exact ⟨by omega, ⟨rfl, rfl⟩, trivial, trivial⟩
  · have e := ab_beq h2; subst e; exact ⟨by omega, trivial, ⟨rfl, rfl⟩, trivial⟩
  · have e := ab_beq h2; subst e; exact ⟨by omega, trivial, trivial, ⟨rfl, rfl⟩⟩
  · cases h2
theorem ab_EA_mk (hd : decode (ab_zCB Z y) pc = .ok (ins, len)) (hn : ∀ e r, rest = e :: r → e.1 = pc + len) (hK : ab_EK Z y pc cl A x1 x2 Xs rest ins len) (hL : ab_EL Z y pc cl A x1 x2 Xs ins len) (hM : ab_EM Z y pc cl A x1 x2 Xs ins len)
    (hne : cl ≠ 40 ∧ cl ≠ 33 ∧ cl ≠ 35 ∧ cl ≠ 42 ∧ cl ≠ 43) : ab_EA Z y pc cl A x1 x2 Xs rest := ⟨ins, len, hd, hn, hK, hL, hM, fun q => absurd q hne.1, fun q => absurd q hne.2.1, fun q => absurd q hne.2.2.1, fun q => absurd q hne.2.2.2.1, fun q => absurd q hne.2.2.2.2⟩
theorem ab_qa_ok (hA : ab_LKa Z K) (hB : ab_LKb Z K) (hCL : ∀ ci, ci < ab_zNC Z → ab_CL (ab_zcl Z) (ab_zNF Z) (ab_zFT Z) (ab_zTW Z) ci (ab_zCT Z ci).1 (ab_zCT Z ci).2) (hd : decode (ab_zCB Z y) pc = .ok (ins, len)) (hn : ∀ e r, rest = e :: r → e.1 = pc + len)
    (h : ab_qa Z K y pc cl A x1 x2 Xs rest ins len = true) : ab_EA Z y pc cl A x1 x2 Xs rest := by
  unfold ab_qa at h
  rcases ab_if h with ⟨c0, h⟩ | ⟨-, h⟩
  · rcases ab_if h with ⟨e, h⟩ | ⟨n3, h⟩
    · have e := ab_beq e; subst e; exact ab_EA_mk hd hn (ab_q3_ok h) trivial trivial (by omega)
    rcases ab_if h with ⟨e, h⟩ | ⟨n0, h⟩
    · have e := ab_beq e; subst e; exact ab_EA_mk hd hn (ab_q0_ok hA h) trivial trivial (by omega)
    rcases ab_if h with ⟨e, h⟩ | ⟨n4, h⟩
    · have e := ab_beq e; subst e; exact ab_EA_mk hd hn (ab_q4_ok h) trivial trivial (by omega)
    rcases ab_if h with ⟨e, h⟩ | ⟨n1, h⟩
    · have e := ab_beq e; subst e; exact ab_EA_mk hd hn (ab_q1_ok hA h) trivial trivial (by omega)
    rcases ab_if h with ⟨e, h⟩ | ⟨n5, h⟩
    · have e := ab_beq e; subst e; exact ab_EA_mk hd hn (ab_q5_ok h) trivial trivial (by omega)
    rcases ab_if h with ⟨e, h⟩ | ⟨n6, h⟩
    · have e := ab_beq e; subst e; exact ab_EA_mk hd hn (ab_q6_ok h) trivial trivial (by omega)
    rcases ab_if h with ⟨e, h⟩ | ⟨n7, h⟩
    · have e := ab_beq e; subst e; exact ab_EA_mk hd hn (ab_q7_ok h) trivial trivial (by omega)
    have := ab_ble c0
    have := Nat.ne_of_beq_eq_false n3
    have := Nat.ne_of_beq_eq_false n0
    have := Nat.ne_of_beq_eq_false n4
    have := Nat.ne_of_beq_eq_false n1
    have := Nat.ne_of_beq_eq_false n5
    have := Nat.ne_of_beq_eq_false n6
    have := Nat.ne_of_beq_eq_false n7
    have e : cl = 2 := by omega
    subst e
    exact ab_EA_mk hd hn (ab_q2_ok hA h) trivial trivial (by omega)
  rcases ab_if h with ⟨c0, h⟩ | ⟨-, h⟩
  · rcases ab_if h with ⟨e, h⟩ | ⟨n3, h⟩
    · obtain ⟨g1, g2, g3, g4⟩ := ab_q8_ok (Z := Z) (y := y) (pc := pc) (A := A) (x1 := x1) (x2 := x2) (Xs := Xs) (rest := rest) h
      exact ab_EA_mk hd hn g2 g3 g4 g1
    rcases ab_if h with ⟨e, h⟩ | ⟨-, h⟩
    · have e := ab_beq e; subst e; exact ab_EA_mk hd hn (ab_q20_ok h) trivial trivial (by omega)
    rcases ab_if h with ⟨e, h⟩ | ⟨-, h⟩
    · have e := ab_beq e; subst e; exact ab_EA_mk hd hn (ab_q21_ok h) trivial trivial (by omega)
    rcases ab_if h with ⟨e, h⟩ | ⟨-, h⟩
    · have e := ab_beq e; subst e; exact ab_EA_mk hd hn (ab_q22_ok h) trivial trivial (by omega)
    rcases ab_if h with ⟨e, h⟩ | ⟨-, h⟩
    · have e := ab_beq e; subst e; exact ab_EA_mk hd hn (ab_q23_ok h) trivial trivial (by omega)
    rcases ab_if h with ⟨e, h⟩ | ⟨-, h⟩
    · have e := ab_beq e; subst e; exact ab_EA_mk hd hn (ab_q24_ok h) trivial trivial (by omega)
    cases h
  rcases ab_if h with ⟨e, h⟩ | ⟨-, h⟩
  · have e := ab_beq e; subst e; exact ab_EA_mk hd hn (ab_q25_ok h) trivial trivial (by omega)
  rcases ab_if h with ⟨e, h⟩ | ⟨-, h⟩
  · have e := ab_beq e; subst e; exact ab_EA_mk hd hn trivial (ab_q30_ok hA h) trivial (by omega)
  rcases ab_if h with ⟨e, h⟩ | ⟨-, h⟩
  · have e := ab_beq e; subst e; exact ab_EA_mk hd hn trivial (ab_q31_ok hA h) trivial (by omega)
  rcases ab_if h with ⟨e, h⟩ | ⟨-, h⟩
  · have e := ab_beq e; subst e; exact ab_EA_mk hd hn trivial (ab_q32_ok hA h) trivial (by omega)
  rcases ab_if h with ⟨e, h⟩ | ⟨-, h⟩
  · have e := ab_beq e; subst e
    exact ⟨ins, len, hd, hn, trivial, trivial, trivial, fun q => (by cases q), fun _ => hB.2.2.2.2.2.2.2 _ _ _ _ _ h hd, fun q => (by cases q), fun q => (by cases q), fun q => (by cases q)⟩
  rcases ab_if h with ⟨e, h⟩ | ⟨-, h⟩
  · have e := ab_beq e; subst e; exact ab_EA_mk hd hn trivial (ab_q34_ok hA h) trivial (by omega)
  rcases ab_if h with ⟨e, h⟩ | ⟨-, h⟩
  · have e := ab_beq e; subst e
    exact ⟨ins, len, hd, hn, trivial, trivial, trivial, fun q => (by cases q), fun q => (by cases q), fun _ => ab_q35_ok hA h, fun q => (by cases q), fun q => (by cases q)⟩
  rcases ab_if h with ⟨e, h⟩ | ⟨-, h⟩
  · have e := ab_beq e; subst e; exact ab_EA_mk hd hn trivial (ab_q36_ok hA h) trivial (by omega)
  rcases ab_if h with ⟨e, h⟩ | ⟨-, h⟩
  · obtain ⟨g1, g2, g3, g4⟩ := ab_q8_ok (Z := Z) (y := y) (pc := pc) (A := A) (x1 := x1) (x2 := x2) (Xs := Xs) (rest := rest) h
    exact ab_EA_mk hd hn g2 g3 g4 g1
  rcases ab_if h with ⟨e, h⟩ | ⟨-, h⟩
  · have e := ab_beq e; subst e; exact ab_EA_mk hd hn trivial (ab_q38_ok h) trivial (by omega)
  rcases ab_if h with ⟨e, h⟩ | ⟨-, h⟩
  · have e := ab_beq e; subst e; exact ab_EA_mk hd hn trivial (ab_q39_ok h) trivial (by omega)
  rcases ab_if h with ⟨e, h⟩ | ⟨-, h⟩
  · have e := ab_beq e; subst e
    exact ⟨ins, len, hd, hn, trivial, trivial, trivial, fun _ => ab_q40_ok hB hCL h, fun q => (by cases q), fun q => (by cases q), fun q => (by cases q), fun q => (by cases q)⟩
  rcases ab_if h with ⟨e, h⟩ | ⟨-, h⟩
  · have e := ab_beq e; subst e; exact ab_EA_mk hd hn trivial (ab_q41_ok hB h) trivial (by omega)
  rcases ab_if h with ⟨e, h⟩ | ⟨-, h⟩
  · have e := ab_beq e; subst e
    exact ⟨ins, len, hd, hn, trivial, trivial, trivial, fun q => (by cases q), fun q => (by cases q), fun q => (by cases q), fun _ => ab_q42_ok hB h, fun q => (by cases q)⟩
  rcases ab_if h with ⟨e, h⟩ | ⟨-, h⟩
  · obtain ⟨g1, g2, g3, g4⟩ := ab_q8_ok (Z := Z) (y := y) (pc := pc) (A := A) (x1 := x1) (x2 := x2) (Xs := Xs) (rest := rest) h
    exact ab_EA_mk hd hn g2 g3 g4 g1
  rcases ab_if h with ⟨e, h⟩ | ⟨-, h⟩
  · have e := ab_beq e; subst e
    exact ⟨ins, len, hd, hn, trivial, trivial, trivial, fun q => (by cases q), fun q => (by cases q), fun q => (by cases q), fun q => (by cases q), fun _ => ab_q43_ok hB h⟩
  rcases ab_if h with ⟨e, h⟩ | ⟨-, h⟩
  · have e := ab_beq e; subst e; exact ab_EA_mk hd hn trivial trivial trivial (by omega)
  · obtain ⟨g1, g2⟩ := ab_q50_ok (pc := pc) (A := A) (x2 := x2) (Xs := Xs) h
    rcases g1 with g | g | g <;> subst g <;> exact ab_EA_mk hd hn trivial g2 trivial (by omega)
theorem ab_ckr_at : ∀ {l : List ab_E}, ab_ckr Z K y l = true → ∀ i e rest, ab_dr i l = e :: rest → ab_ck1 Z K y e rest = true
  | [], _, i, e, rest, h => by rw [ab_dr_nil] at h; cases h
  | a :: l, hl, i, e, rest, h => by
    have h' : (bif ab_ck1 Z K y a l then ab_ckr Z K y l else false) = true := hl
    obtain ⟨q1, q2⟩ := ab_an h'
    cases i with
    | zero =>
      have h2 : a :: l = e :: rest := h
      cases h2
      exact q1
    | succ i => exact ab_ckr_at q2 i e rest h
theorem ab_ck_ok (hA : ab_LKa Z K) (hB : ab_LKb Z K) (hCL : ∀ ci, ci < ab_zNC Z → ab_CL (ab_zcl Z) (ab_zNF Z) (ab_zFT Z) (ab_zTW Z) ci (ab_zCT Z ci).1 (ab_zCT Z ci).2) (h : ab_ck Z K y = true) {i fl : Nat} (hi : ab_dr i (ab_zP Z y).1 = (pc, fl, cl, A, x1, x2, Xs) :: rest) : ab_EA Z y pc cl A x1 x2 Xs rest := by
  have h1 := ab_ckr_at h i _ _ hi
  unfold ab_ck1 at h1
  dsimp only at h1
  split at h1
  · rename_i ins len hd
    obtain ⟨q1, q2⟩ := ab_an h1
    refine ab_qa_ok hA hB hCL hd (fun e r hr => ?_) q2
    subst hr
    exact ab_beq q1
  · cases h1
end CK
