/-! LONG METHODS ONCE: a method whose entry is told is not walked again where it is called. -/
section MM
/-- cells as they are told, against a heap of the walker's -/
noncomputable def abm_c2 (p a : ab_C) : Bool := match p, a with
  | .inr (ty, m, some (d, pl)), .inr (tz, l, some (e, al)) => bif (bif Nat.beq ty tz then Nat.beq m l else false) then (bif ab_veq d e then ab_lveq pl al else false) else false
  | .inl p, .inl a => ab_cm (.inl p) (.inl a)
  | _, _ => false
theorem abm_c2_ok {dC : Nat → ClassId} {dI : Nat → Nat → Nat} {dA : Nat → ClassId} {b B n : Nat} {ρ : Nat → Int} {p a : ab_C} {oc : Option Cell} (h : abm_c2 p a = true) (hr : ab_RC dC dI dA abNF abFT b B n ρ a oc) : ab_RC dC dI dA abNF abFT b B n ρ p oc := by
  match p, a, h, hr with
  | .inr (ty, m, some (d, pl)), .inr (tz, l, some (e, al)), h, hr =>
    obtain ⟨h1, h2⟩ := ab_an h
    obtain ⟨h3, h4⟩ := ab_an h1
    obtain ⟨h5, h6⟩ := ab_an h2
    have e1 : ty = tz := ab_beq h3
    have e2 : m = l := ab_beq h4
    have e3 : d = e := ab_veq_iff h5
    have e4 : pl = al := ab_lveq_ok h6
    subst e1
    subst e2
    subst e3
    subst e4
    exact hr
  | .inl p, .inl a, h, hr =>
    have h' : ab_cm (.inl p) (.inl a) = true := h
    exact ab_cm_ok h' hr
  | .inl _, .inr _, h, _ => cases h
  | .inr (_, _, none), _, h, _ => cases h
  | .inr (_, _, some _), .inl _, h, _ => cases h
  | .inr (_, _, some _), .inr (_, _, none), h, _ => cases h
abbrev abm_T : Type := List (Nat × ab_C)
noncomputable def abm_in (c : Nat) (l : abm_T) : Bool := List.rec false (fun q _ r => bif Nat.beq q.1 c then true else r) l
theorem abm_in_ok {c : Nat} : ∀ {l : abm_T}, abm_in c l = true → ∃ x, ab_lk l c = some x
  | [], h => by cases h
  | q :: l, h => by
    obtain ⟨a, x⟩ := q
    rw [ab_lk_cons]
    have h' : (bif Nat.beq a c then true else abm_in c l) = true := h
    cases hb : Nat.beq a c
    · rw [hb] at h'
      exact abm_in_ok h'
    · exact ⟨x, rfl⟩
/-- what is told: every cell a closed one, none the script's -/
noncomputable def abm_cl (l : abm_T) : Bool := ab_all (fun q => bif Nat.beq q.1 0 then false else bif Nat.ble 490 q.1 then false else ab_cC q.2) l
noncomputable def abm_h (l : abm_T) : ab_H := (490, (0, abSC 8) :: l)
noncomputable def abm_mt (l : abm_T) (n : Nat) (h : ab_H) : Bool :=
  bif (bif Nat.beq h.1 490 then (bif Nat.ble 8 n then ab_sce (ab_lk h.2 0) else false) else false) then
    (bif ab_all (fun q => bif Nat.beq q.1 0 then true else abm_in q.1 l) h.2 then ab_all (fun q => match ab_lk h.2 q.1 with
      | some y => abm_c2 q.2 y
      | none => match abBS q.1 with
        | some y => abm_c2 q.2 y
        | none => false) l else false) else false
noncomputable def abm_lm (l L : ab_L) : Bool := ab_all (fun q => match ab_lk L q.1 with
  | some v => ab_veq q.2 v
  | none => false) l
noncomputable def abm_cL (l : ab_L) : Bool := ab_all (fun q => ab_cV q.2) l
noncomputable def abm_sq (l m : List ab_V) : Bool := List.rec (motive := fun _ => List ab_V → Bool) (fun m => match m with
  | [] => true
  | _ :: _ => false) (fun v _ r m => match m with
  | [] => false
  | w :: m' => bif ab_veq v w then r m' else false) l m
theorem abm_sq_ok : ∀ {l m : List ab_V}, abm_sq l m = true → l = m
  | [], [], _ => rfl
  | [], _ :: _, h => by cases h
  | _ :: _, [], h => by cases h
  | v :: l, w :: m, h => by
    have h' : (bif ab_veq v w then abm_sq l m else false) = true := h
    obtain ⟨h1, h2⟩ := ab_an h'
    rw [ab_veq_iff h1, abm_sq_ok h2]
noncomputable def abm_cS (l : List ab_V) : Bool := ab_all (fun v => ab_cV v) l
theorem abm_cS_ok {b B n n' : Nat} {ρ ρ' : Nat → Int} : ∀ {S : List ab_V} {st : List Value}, abm_cS S = true → ab_RS b B n ρ S st → ab_RS b B n' ρ' S st
  | [], [], _, _ => trivial
  | v :: S, x :: st, h, hr => by
    have h' : (bif ab_cV v then abm_cS S else false) = true := h
    obtain ⟨h1, h2⟩ := ab_an h'
    exact ⟨ab_cV_ok h1 hr.1, abm_cS_ok h2 hr.2⟩
  | [], _ :: _, _, hr => hr.elim
  | _ :: _, [], _, hr => hr.elim
theorem ab_RL_of {b B n : Nat} {ρ : Nat → Int} {nL : Nat} {ls : Array Slot} (h1 : ls.size = nL) (h2 : lv_wf ls) : ∀ (Lp : ab_L), (∀ q ∈ Lp, ∃ x, ls[q.1]? = some (.val x) ∧ ab_RV b B n ρ q.2 x) → ab_RL b B n ρ nL Lp ls
  | [], _ => ⟨[], ⟨h1, h2, fun q hq => nomatch hq⟩, trivial⟩
  | q :: L, h => by
    obtain ⟨lv, h5, h6⟩ := ab_RL_of h1 h2 L (fun q hq => h q (List.mem_cons_of_mem _ hq))
    obtain ⟨x, h3, h4⟩ := h q List.mem_cons_self
    refine ⟨(q.1, x) :: lv, ⟨h1, h2, fun r hr => ?_⟩, rfl, h4, h6⟩
    rcases List.mem_cons.mp hr with rfl | hr
    · exact h3
    · exact h5.2.2 r hr
theorem abG0_sat2 {ρ : Nat → Int} {xs : Nat → Int32} (h : ∀ i, i < 8 → ρ i = (xs i).toInt) : ab_Sat ρ abG0 := by
  have h0 := abG0_sat xs
  refine ⟨fun i p hp => ?_, h0.2.1, fun f hf => absurd hf List.not_mem_nil, fun d hd => absurd hd List.not_mem_nil⟩
  obtain ⟨a1, a2, a3⟩ := h0.1 i p hp
  refine ⟨a1, ?_, ?_⟩
  · rw [h i a1]; exact a2
  · rw [h i a1]; exact a3
theorem abm_R2_cl {b B n n' : Nat} {ρ ρ' : Nat → Int} : ∀ {l : ab_L} {lv : List (Nat × Value)}, abm_cL l = true → ab_R2 b B n ρ l lv → ab_R2 b B n' ρ' l lv
  | [], [], _, _ => trivial
  | q :: l, x :: lv, h, hr => by
    have h' : (bif ab_cV q.2 then abm_cL l else false) = true := h
    obtain ⟨h1, h2⟩ := ab_an h'
    obtain ⟨i, v⟩ := q
    obtain ⟨j, w⟩ := x
    exact ⟨hr.1, ab_cV_ok h1 hr.2.1, abm_R2_cl h2 hr.2.2⟩
  | [], _ :: _, _, hr => hr.elim
  | _ :: _, [], _, hr => hr.elim
/-- the script's row says the same of the same eight numbers -/
theorem abm_sc {dC : Nat → ClassId} {dI : Nat → Nat → Nat} {dA : Nat → ClassId} {b B n n' : Nat} {ρ ρ' : Nat → Int} {oc : Option Cell} (h : ab_RC dC dI dA abNF abFT b B n ρ (abSC 8) oc) (he : ∀ i, i < 8 → ρ' i = ρ i) (hn : 8 ≤ n') : ab_RC dC dI dA abNF abFT b B n' ρ' (abSC 8) oc := by
  rcases h with h | h
  · refine Or.inl ⟨h.1, ab_RW.map dA h.2 (fun j hj z q => ?_)⟩
    have go : ∀ i, i < 8 → ab_RV b B n ρ (.inl (.inl (.inr i))) (.int z) → ab_RV b B n' ρ' (.inl (.inl (.inr i))) (.int z) := fun i hi hq => by
      obtain ⟨q1, q2, q3⟩ := hq
      have e : ab_sv ρ' (.inr i) = ab_sv ρ (.inr i) := he i hi
      exact ⟨by rw [e]; exact q1, by rw [e]; exact q2, Nat.lt_of_lt_of_le hi hn⟩
    match j, hj, q with
    | 0, _, q => exact go 0 (by decide) q
    | 1, _, q => exact go 1 (by decide) q
    | 2, _, q => exact go 2 (by decide) q
    | 3, _, q => exact go 3 (by decide) q
    | 4, _, q => exact go 4 (by decide) q
    | 5, _, q => exact go 5 (by decide) q
    | 6, _, q => exact go 6 (by decide) q
    | 7, _, q => exact go 7 (by decide) q
    | _ + 8, hj, _ => omega
  · exact absurd h.1 (by decide)
theorem abm_sc_rg {dC : Nat → ClassId} {dI : Nat → Nat → Nat} {dA : Nat → ClassId} {b B n : Nat} {ρ : Nat → Int} {oc : Option Cell} (h : ab_RC dC dI dA abNF abFT b B n ρ (abSC 8) oc) : ∀ i, i < 8 → ab_R 0 (ρ i) := by
  rcases h with h | h
  · have h2 := h.2
    unfold ab_RW at h2
    rw [if_pos rfl] at h2
    obtain ⟨scr, -, -, -, -, -, -, w7⟩ := h2
    intro i hi
    obtain ⟨z, -, q⟩ := w7 i hi
    match i, hi, q with
    | 0, _, q => exact q.2.1
    | 1, _, q => exact q.2.1
    | 2, _, q => exact q.2.1
    | 3, _, q => exact q.2.1
    | 4, _, q => exact q.2.1
    | 5, _, q => exact q.2.1
    | 6, _, q => exact q.2.1
    | 7, _, q => exact q.2.1
    | _ + 8, hi, _ => omega
  · exact absurd h.1 (by decide)
variable {HS : Nat → Nat → Option ab_B} {U : ab_UT}
/-- a heap of the walker's that matches what is told -/
theorem abm_mt_ok {l : abm_T} {n n' : Nat} {ρ ρ' : Nat → Int} {h : ab_H} {H : Heap} (hc : abm_cl l = true) (hm : abm_mt l n h = true) (he : ∀ i, i < 8 → ρ' i = ρ i) (hn : 8 ≤ n') (hH : ab_rH (abZ HS abBS) U n ρ h H) : ab_rH (abZ HS abBS) U n' ρ' (abm_h l) H := by
  unfold abm_mt at hm
  obtain ⟨m1, m2⟩ := ab_an hm
  obtain ⟨m3, m4⟩ := ab_an m1
  obtain ⟨-, m5⟩ := ab_an m4
  obtain ⟨m6, m7⟩ := ab_an m2
  have e1 : h.1 = 490 := ab_beq m3
  have e2 : ab_lk h.2 0 = some (abSC 8) := ab_sce_ok m5
  refine ⟨by show 1 ≤ 490; decide, ?_, fun d x hd => ?_⟩
  · have h9 := hH.2.1
    rw [e1] at h9
    exact h9
  · unfold ab_cl at hd
    by_cases e0 : 0 = d
    · subst e0
      have e9 : ab_lk (abm_h l).2 0 = some (abSC 8) := rfl
      rw [e9] at hd
      cases hd
      have h9 := hH.2.2 0 (abSC 8) (by unfold ab_cl; rw [e2])
      exact ⟨by show 0 < 490; decide, abm_sc h9.2 he hn⟩
    · have e9 : ab_lk (abm_h l).2 d = ab_lk l d := by
        show ab_lk ((0, abSC 8) :: l) d = _
        exact ab_lk_ne _ _ e0
      rw [e9] at hd
      cases hl : ab_lk l d with
      | some y =>
        rw [hl] at hd
        cases hd
        have hmem := ab_lk_mem hl
        have q1 := ab_all_mem hc _ hmem
        rcases ab_if q1 with ⟨-, q⟩ | ⟨-, q1⟩
        · cases q
        rcases ab_if q1 with ⟨-, q⟩ | ⟨q2, q3⟩
        · cases q
        have q4 := ab_all_mem m7 _ hmem
        have hlt : d < 490 := by
          have q2' : Nat.ble 490 d = false := q2
          cases Nat.lt_or_ge d 490 with
          | inl h => exact h
          | inr h => rw [Nat.ble_eq_true_of_le h] at q2'; cases q2'
        try dsimp only at q4
        try dsimp only at q3
        cases hk : ab_lk h.2 d with
        | some z =>
          rw [hk] at q4
          have h9 := hH.2.2 d z (by unfold ab_cl; rw [hk])
          exact ⟨hlt, ab_cC_ok q3 (abm_c2_ok q4 h9.2)⟩
        | none =>
          rw [hk] at q4
          cases hb : abBS d with
          | none =>
            try dsimp only at q4
            rw [hb] at q4
            cases q4
          | some z =>
            try dsimp only at q4
            rw [hb] at q4
            have h9 := hH.2.2 d z (by unfold ab_cl; rw [hk]; exact hb)
            exact ⟨hlt, ab_cC_ok q3 (abm_c2_ok q4 h9.2)⟩
      | none =>
        rw [hl] at hd
        have hd : abBS d = some x := hd
        have hk : ab_lk h.2 d = none := by
          cases hk : ab_lk h.2 d with
          | none => rfl
          | some z =>
            have q := ab_all_mem m6 _ (ab_lk_mem hk)
            try dsimp only at q
            rcases ab_if q with ⟨q, -⟩ | ⟨-, q⟩
            · exact absurd (ab_beq q).symm e0
            · obtain ⟨w, hw⟩ := abm_in_ok q
              rw [hl] at hw
              cases hw
        have h9 := hH.2.2 d x (by unfold ab_cl; rw [hk]; exact hd)
        exact ⟨(abBS_lt d x hd).2, ab_cC_ok (abBS_ok d x hd) h9.2⟩
/-- the same of what is told under other numbers -/
theorem abm_mv {l : abm_T} {n n' : Nat} {ρ ρ' : Nat → Int} {H : Heap} (hc : abm_cl l = true) (he : ∀ i, i < 8 → ρ' i = ρ i) (hn : 8 ≤ n') (hH : ab_rH (abZ HS abBS) U n ρ (abm_h l) H) : ab_rH (abZ HS abBS) U n' ρ' (abm_h l) H := by
  refine ⟨hH.1, hH.2.1, fun d x hd => ?_⟩
  have h9 := hH.2.2 d x hd
  refine ⟨h9.1, ?_⟩
  unfold ab_cl at hd
  by_cases e0 : 0 = d
  · subst e0
    have e9 : ab_lk (abm_h l).2 0 = some (abSC 8) := rfl
    rw [e9] at hd
    cases hd
    exact abm_sc h9.2 he hn
  · have e9 : ab_lk (abm_h l).2 d = ab_lk l d := by
      show ab_lk ((0, abSC 8) :: l) d = _
      exact ab_lk_ne _ _ e0
    rw [e9] at hd
    cases hl : ab_lk l d with
    | some y =>
      rw [hl] at hd
      cases hd
      have q1 := ab_all_mem hc _ (ab_lk_mem hl)
      rcases ab_if q1 with ⟨-, q⟩ | ⟨-, q1⟩
      · cases q
      rcases ab_if q1 with ⟨-, q⟩ | ⟨-, q3⟩
      · cases q
      exact ab_cC_ok q3 h9.2
    | none =>
      rw [hl] at hd
      exact ab_cC_ok (abBS_ok d x hd) h9.2
theorem abm_lm_ok {l L : ab_L} {b B n n' : Nat} {ρ ρ' : Nat → Int} {nL : Nat} {ls : Array Slot} (hc : abm_cL l = true) (hm : abm_lm l L = true) (h : ab_RL b B n ρ nL L ls) : ab_RL b B n' ρ' nL l ls := by
  obtain ⟨lv, hlv, hlv2⟩ := h
  refine ab_RL_of hlv.1 hlv.2.1 l (fun q hq => ?_)
  have h7 := ab_all_mem hm q hq
  have h8 := ab_all_mem hc q hq
  try dsimp only at h7
  try dsimp only at h8
  cases hlk : ab_lk L q.1 with
  | none => rw [hlk] at h7; cases h7
  | some v9 =>
    rw [hlk] at h7
    have h6 : q.2 = v9 := ab_veq_iff h7
    obtain ⟨x, g1, g2⟩ := ab_RL.get (L := L) ⟨lv, hlv, hlv2⟩ hlk
    rw [← h6] at g2
    exact ⟨x, g1, ab_cV_ok h8 g2⟩
/-- a method once walked: its number, locals, cells at its entry, what it gives back, cells at its end -/
abbrev abm_E : Type := Nat × ab_L × abm_T × List ab_V × abm_T
noncomputable def abm_p0 (pos : List ab_E) : Bool := match pos with
  | [] => false
  | q :: _ => Nat.beq q.1 0
noncomputable def abm_fs (M : List abm_E) (F : ab_X) (y : Nat) (cuts : List Nat) (fst : Bool) (pos : List ab_E) (L : ab_L) (S : List ab_V) (G : ab_G) (h : ab_H) (cn sn : Nat) (k : ab_K) : Bool := List.rec (F y cuts fst pos L S G h cn sn k) (fun e _ r =>
    bif (bif Nat.beq y e.1 then abm_p0 pos else false) then (bif (bif (bif S.isEmpty then (bif Nat.beq cn 0 then Nat.beq sn 0 else false) else false) then (bif abm_lm e.2.1 L then abm_mt e.2.2.1 G.1 h else false) else false) then k 0 0 e.2.2.2.1 [] G (abm_h e.2.2.2.2) 0 0 else false) else r) M
noncomputable def abm_f (M : List abm_E) (F : ab_X) : ab_X := fun y cuts fst pos L S G h cn sn k => bif fst then abm_fs M F y cuts fst pos L S G h cn sn k else F y cuts fst pos L S G h cn sn k
noncomputable def abm_r (M : List abm_E) (n : Nat) : ab_X := Nat.rec (fun _ _ _ _ _ _ _ _ _ _ _ => false) (fun _ ih => abm_f M (ab_bodyF abBS abP abNF (fun _ _ => none) ih)) n
/-- what it must be -/
def abm_K (U : ab_UT) (e : abm_E) : Prop := abm_cL e.2.1 = true ∧ abm_cl e.2.2.1 = true ∧ ∀ (X : ab_XT) (ρ : Nat → Int) (n : Nat), 8 ≤ n → ab_Cx (abZ (fun _ _ => none) abBS) U e.1 X →
  ab_Lf (abZ (fun _ _ => none) abBS) U e.1 X ρ 0 0 e.2.2.2.1 [] n (abm_h e.2.2.2.2) 0 0 → ab_Go (abZ (fun _ _ => none) abBS) U e.1 X ρ n 0 [] e.2.1 (abm_h e.2.2.1) 0 0
theorem abm_nil {U : ab_UT} : ∀ e ∈ ([] : List abm_E), abm_K U e := fun _ h => nomatch h
theorem abm_fs_ok {F : ab_X} (hF : ab_Ok (abZ (fun _ _ => none) abBS) U F) : ∀ {M : List abm_E}, (∀ e ∈ M, abm_K U e) → ab_Ok (abZ (fun _ _ => none) abBS) U (abm_fs M F)
  | [], _ => hF
  | e :: M, hM => by
    intro y cuts fst pos L S G h cn sn k hx hp X ρ hc hs hk pc hpc
    have hx1 : (bif (bif Nat.beq y e.1 then abm_p0 pos else false) then (bif (bif (bif S.isEmpty then (bif Nat.beq cn 0 then Nat.beq sn 0 else false) else false) then (bif abm_lm e.2.1 L then abm_mt e.2.2.1 G.1 h else false) else false) then k 0 0 e.2.2.2.1 [] G (abm_h e.2.2.2.2) 0 0 else false) else abm_fs M F y cuts fst pos L S G h cn sn k) = true := hx
    clear hx
    rcases ab_if hx1 with ⟨h1, hx2⟩ | ⟨-, hx2⟩
    · clear hx1
      obtain ⟨h2, h3⟩ := ab_an h1
      obtain ⟨h4, hx3⟩ := ab_an hx2
      clear hx2
      obtain ⟨h5, h6⟩ := ab_an h4
      obtain ⟨h7, h8⟩ := ab_an h5
      obtain ⟨h9, h10⟩ := ab_an h8
      obtain ⟨h11, h12⟩ := ab_an h6
      obtain ⟨k1, k2, k3⟩ := hM e List.mem_cons_self
      have ey : y = e.1 := ab_beq h2
      have eS : S = [] := List.isEmpty_iff.mp h7
      have ec : cn = 0 := ab_beq h9
      have es : sn = 0 := ab_beq h10
      subst ey
      subst eS
      subst ec
      subst es
      have hn : 8 ≤ G.1 := by
        unfold abm_mt at h12
        obtain ⟨q1, -⟩ := ab_an h12
        obtain ⟨-, q2⟩ := ab_an q1
        exact ab_ble (ab_an q2).1
      have epc : pc = 0 := by
        cases pos with
        | nil => cases h3
        | cons q r => exact (hpc q r rfl).symm.trans (ab_beq h3)
      subst epc
      have lf := hk 0 0 e.2.2.2.1 [] G (abm_h e.2.2.2.2) 0 0 ρ hx3 (ab_Ext.rf _ _) hs
      have go := k3 X ρ G.1 hn hc lf
      intro H ls st locs a1 a2 a3 a4
      exact go H ls st locs (abm_mt_ok k2 h12 (fun _ _ => rfl) hn a1) (abm_lm_ok k1 h11 a2) a3 a4
    · exact abm_fs_ok hF (fun e he => hM e (List.mem_cons_of_mem _ he)) y cuts fst pos L S G h cn sn k hx2 hp X ρ hc hs hk pc hpc
theorem abm_f_ok {M : List abm_E} {F : ab_X} (hM : ∀ e ∈ M, abm_K U e) (hF : ab_Ok (abZ (fun _ _ => none) abBS) U F) : ab_Ok (abZ (fun _ _ => none) abBS) U (abm_f M F) := by
  intro y cuts fst pos L S G h cn sn k hx
  unfold abm_f at hx
  rcases ab_if hx with ⟨-, hx1⟩ | ⟨-, hx1⟩
  · exact abm_fs_ok hF hM y cuts fst pos L S G h cn sn k hx1
  · exact hF y cuts fst pos L S G h cn sn k hx1
theorem abm_r_ok (hAx : ab_Ax) (hT : ab_Tb (abZ (fun _ _ => none) abBS)) {M : List abm_E} (hM : ∀ e ∈ M, abm_K U e) : ∀ n, ab_Ok (abZ (fun _ _ => none) abBS) U (abm_r M n)
  | 0 => fun y cuts fst pos L S G h cn sn k hx => by cases hx
  | n + 1 => by
    have h := ab_bd_ok hAx hT (abm_r_ok hAx hT hM n)
    have e : ab_body (ab_zBS (abZ (fun _ _ => none) abBS)) (ab_zP (abZ (fun _ _ => none) abBS)) (ab_zNF (abZ (fun _ _ => none) abBS)) (ab_zHS (abZ (fun _ _ => none) abBS)) (abm_r M n) = ab_bodyF abBS abP abNF (fun _ _ => none) (abm_r M n) := (ab_bodyF_eq abBS abP abNF (fun _ _ => none) (abm_r M n)).symm
    rw [e] at h
    exact abm_f_ok hM h
/-- one stretch of a method: it stops at the head's (j + 1)th coming -/
noncomputable def abm_k (M : List abm_E) (N y ix pc : Nat) (kB : ab_K) (j : Nat) : ab_K := Nat.rec kB (fun _ r => fun kd a S L G h cn sn => bif (bif Nat.beq kd 2 then Nat.beq a pc else false) then abm_r M N y [pc] true (ab_dr ix (abP y).1) L S G h cn sn r else kB kd a S L G h cn sn) j
/-- a place on the way -/
noncomputable def abm_kC (pc : Nat) (l : ab_L) (t : abm_T) : ab_K := fun kd a S L G h cn sn => bif (bif (bif Nat.beq kd 2 then Nat.beq a pc else false) then (bif S.isEmpty then (bif Nat.beq cn 0 then Nat.beq sn 0 else false) else false) else false) then (bif abm_lm l L then abm_mt t G.1 h else false) else false
/-- the end -/
noncomputable def abm_kE (R : List ab_V) (t : abm_T) : ab_K := fun kd _ S _ G h cn sn => bif (bif Nat.beq kd 0 then (bif Nat.beq cn 0 then Nat.beq sn 0 else false) else false) then (bif abm_sq R S then abm_mt t G.1 h else false) else false
def abm_G (U : ab_UT) (y pc : Nat) (l : ab_L) (t : abm_T) (R : List ab_V) (e : abm_T) : Prop := ∀ (X : ab_XT) (ρ : Nat → Int) (n : Nat), 8 ≤ n → ab_Cx (abZ (fun _ _ => none) abBS) U y X →
  ab_Lf (abZ (fun _ _ => none) abBS) U y X ρ 0 0 R [] n (abm_h e) 0 0 → ab_Go (abZ (fun _ _ => none) abBS) U y X ρ n pc [] l (abm_h t) 0 0
/-- a base that is right -/
def abm_B (U : ab_UT) (y : Nat) (R : List ab_V) (e : abm_T) (kB : ab_K) : Prop := ∀ (X : ab_XT) (ρ : Nat → Int) (n : Nat), 8 ≤ n → ab_Cx (abZ (fun _ _ => none) abBS) U y X →
  ab_Lf (abZ (fun _ _ => none) abBS) U y X ρ 0 0 R [] n (abm_h e) 0 0 → ∀ m ρ1, (∀ i, i < 8 → ρ1 i = ρ i) → 8 ≤ m → ab_Hk (abZ (fun _ _ => none) abBS) U y X m ρ1 kB
theorem abm_kC_ok {y pc : Nat} {l : ab_L} {t : abm_T} {R : List ab_V} {e : abm_T} (hl : abm_cL l = true) (ht : abm_cl t = true) (hG : abm_G U y pc l t R e) : abm_B U y R e (abm_kC pc l t) := by
  intro X ρ n hn hc hLf m ρ1 he hm kd a S L G h cn sn ρ2 hk e1 e2
  unfold abm_kC at hk
  obtain ⟨k1, k2⟩ := ab_an hk
  obtain ⟨k3, k4⟩ := ab_an k1
  obtain ⟨k5, k6⟩ := ab_an k3
  obtain ⟨k7, k8⟩ := ab_an k4
  obtain ⟨k9, k10⟩ := ab_an k8
  obtain ⟨k11, k12⟩ := ab_an k2
  have ek : kd = 2 := ab_beq k5
  have ea : a = pc := ab_beq k6
  have eS : S = [] := List.isEmpty_iff.mp k7
  have ec : cn = 0 := ab_beq k9
  have es : sn = 0 := ab_beq k10
  subst ek
  subst ea
  subst eS
  subst ec
  subst es
  intro H ls st locs a1 a2 a3 a4
  exact hG X ρ n hn hc hLf H ls st locs (abm_mt_ok ht k12 (fun i hi => ((e1.2 i (Nat.lt_of_lt_of_le hi hm)).trans (he i hi)).symm) hn a1) (abm_lm_ok hl k11 a2) (by
    have := a3.nil
    subst this
    exact trivial) a4
theorem abm_kE_ok {y : Nat} {R : List ab_V} {e : abm_T} (hR : abm_cS R = true) (ht : abm_cl e = true) : abm_B U y R e (abm_kE R e) := by
  intro X ρ n hn hc hLf m ρ1 he hm kd a S L G h cn sn ρ2 hk e1 e2
  unfold abm_kE at hk
  obtain ⟨k1, k2⟩ := ab_an hk
  obtain ⟨k3, k4⟩ := ab_an k1
  obtain ⟨k9, k10⟩ := ab_an k4
  obtain ⟨k11, k12⟩ := ab_an k2
  have ek : kd = 0 := ab_beq k3
  have ec : cn = 0 := ab_beq k9
  have es : sn = 0 := ab_beq k10
  have eS : R = S := abm_sq_ok k11
  subst ek
  subst ec
  subst es
  subst eS
  intro ins pc H ls st locs hd hkr hH hS hV
  exact hLf ins pc H ls st locs hd hkr (abm_mt_ok ht k12 (fun i hi => ((e1.2 i (Nat.lt_of_lt_of_le hi hm)).trans (he i hi)).symm) hn hH) (abm_cS_ok hR hS) hV
theorem abm_k_ok (hAx : ab_Ax) (hT : ab_Tb (abZ (fun _ _ => none) abBS)) {M : List abm_E} (hM : ∀ e ∈ M, abm_K U e) {N y ix pc : Nat} {R : List ab_V} {e : abm_T} {kB : ab_K} (hB : abm_B U y R e kB) (hpc : ∀ q r, ab_dr ix (abP y).1 = q :: r → q.1 = pc) : ∀ j, abm_B U y R e (abm_k M N y ix pc kB j)
  | 0 => hB
  | j + 1 => by
    intro X ρ n hn hc hLf m ρ1 he hm kd a S L G h cn sn ρ2 hk e1 e2
    have hk : (bif (bif Nat.beq kd 2 then Nat.beq a pc else false) then abm_r M N y [pc] true (ab_dr ix (abP y).1) L S G h cn sn (abm_k M N y ix pc kB j) else kB kd a S L G h cn sn) = true := hk
    rcases ab_if hk with ⟨k1, k2⟩ | ⟨-, k2⟩
    · obtain ⟨k3, k4⟩ := ab_an k1
      have ek : kd = 2 := ab_beq k3
      have ea : a = pc := ab_beq k4
      subst ek
      subst ea
      exact abm_r_ok hAx hT hM N y [a] true _ L S G h cn sn _ k2 ⟨ix, rfl⟩ X ρ2 hc e2 (abm_k_ok hAx hT hM hB hpc j X ρ n hn hc hLf G.1 ρ2 (fun i hi => (e1.2 i (Nat.lt_of_lt_of_le hi hm)).trans (he i hi)) (Nat.le_trans hm e1.1)) a hpc
    · exact hB X ρ n hn hc hLf m ρ1 he hm kd a S L G h cn sn ρ2 k2 e1 e2
theorem abm_seg (hAx : ab_Ax) (hT : ab_Tb (abZ (fun _ _ => none) abBS)) {M : List abm_E} (hM : ∀ e ∈ M, abm_K U e) {N y ix pc ix0 pc0 j : Nat} {cuts : List Nat} {R : List ab_V} {e : abm_T} {kB : ab_K} {l : ab_L} {t : abm_T} (hB : abm_B U y R e kB) (hpc : ∀ q r, ab_dr ix (abP y).1 = q :: r → q.1 = pc) (hpc0 : ∀ q r, ab_dr ix0 (abP y).1 = q :: r → q.1 = pc0)
    (hl : abm_cL l = true) (ht : abm_cl t = true) (hx : abm_r M N y cuts true (ab_dr ix0 (abP y).1) l [] abG0 (abm_h t) 0 0 (abm_k M N y ix pc kB j) = true) : abm_G U y pc0 l t R e := by
  intro X ρ n hn hc hLf H ls st locs a1 a2 a3 a4
  have est := a3.nil
  subst est
  have hsc := (a1.2.2 0 (abSC 8) rfl).2
  have hrg := abm_sc_rg hsc
  have hs : ab_Sat ρ abG0 := abG0_sat2 (xs := fun i => Int32.ofInt (ρ i)) (fun i hi => by
    have h := hrg i hi
    exact (ab_t32 h).symm)
  have a1' : ab_rH (abZ (fun _ _ => none) abBS) U 8 ρ (abm_h t) H := abm_mv ht (fun _ _ => rfl) (Nat.le_refl _) a1
  obtain ⟨lv, hlv, hlv2⟩ := a2
  have a2' : ab_rL U 8 ρ (abML y) l ls := ⟨lv, hlv, abm_R2_cl hl hlv2⟩
  exact abm_r_ok hAx hT hM N y cuts true _ l [] abG0 (abm_h t) 0 0 _ hx ⟨ix0, rfl⟩ X ρ hc hs (abm_k_ok hAx hT hM hB hpc j X ρ n hn hc hLf 8 ρ (fun _ _ => rfl) (Nat.le_refl _)) pc0 hpc0 H ls [] locs a1' a2' trivial a4
end MM
