/-! THE LOOP'S PATTERN: where a state is an instance of it. -/
theorem ab_lk_mem {α : Type} {i : Nat} {v : α} : ∀ {l : List (Nat × α)}, ab_lk l i = some v → (i, v) ∈ l
  | [], h => by cases h
  | (j, w) :: l, h => by
    rw [ab_lk_cons] at h
    cases hb : Nat.beq j i
    · rw [hb] at h
      exact List.mem_cons_of_mem _ (ab_lk_mem h)
    · rw [hb] at h
      cases h
      rw [← show j = i from ab_beq hb]
      exact List.mem_cons_self
theorem ab_lk_mem2 {α : Type} {i : Nat} {v : α} : ∀ {l : List (Nat × α)}, (i, v) ∈ l → ∃ w, ab_lk l i = some w
  | [], h => by cases h
  | (j, w) :: l, h => by
    rw [ab_lk_cons]
    cases hb : Nat.beq j i
    · rcases List.mem_cons.mp h with h | h
      · cases h
        rw [show Nat.beq i i = true from Nat.beq_refl i] at hb
        cases hb
      · exact ab_lk_mem2 h
    · exact ⟨w, rfl⟩
/-- the pattern's variables are the state's and new ones -/
def ab_Inv (G Gg : ab_G) : Prop := G.1 ≤ Gg.1 ∧ Gg.2.2 = G.2.2 ∧ (∀ i, i < G.1 → ab_lk Gg.2.1 i = ab_lk G.2.1 i) ∧ (∀ (i : Nat) (p : Int × Int), ab_lk Gg.2.1 i = some p → i < Gg.1) ∧ ∀ i, i < Gg.1 → ∃ p, ab_lk Gg.2.1 i = some p
theorem ab_Inv.rf {ρ : Nat → Int} {G : ab_G} (hs : ab_Sat ρ G) : ab_Inv G G := ⟨Nat.le_refl _, rfl, fun _ _ => rfl, fun i p h => (hs.1 i p h).1, hs.2.1⟩
theorem ab_Inv.push {G Gg : ab_G} (h : ab_Inv G Gg) (p : Int × Int) : ab_Inv G (Gg.1 + 1, (Gg.1, p) :: Gg.2.1, Gg.2.2) := by
  obtain ⟨h1, h2, h3, h4, h5⟩ := h
  refine ⟨Nat.le_succ_of_le h1, h2, fun i hi => ?_, fun i q hq => ?_, fun i hi => ?_⟩
  · show ab_lk ((Gg.1, p) :: Gg.2.1) i = _
    rw [ab_lk_ne _ _ (show Gg.1 ≠ i by omega)]
    exact h3 i hi
  · have hq' : ab_lk ((Gg.1, p) :: Gg.2.1) i = some q := hq
    by_cases e : Gg.1 = i
    · show i < Gg.1 + 1
      omega
    · rw [ab_lk_ne _ _ e] at hq'
      exact Nat.lt_succ_of_lt (h4 i q hq')
  · show ∃ q, ab_lk ((Gg.1, p) :: Gg.2.1) i = some q
    by_cases e : Gg.1 = i
    · subst e
      exact ⟨p, ab_lk_self _ _ _⟩
    · rw [ab_lk_ne _ _ e]
      have hi' : i < Gg.1 + 1 := hi
      exact h5 i (by omega)
theorem ab_gl_ok {L0 : ab_L} {G0 G : ab_G} {f : ab_L → ab_G → Bool} : ∀ {bs : List (Nat × (Nat × Nat × Int) × (Nat × Nat × Int))} {L : ab_L} {Gg : ab_G}, ab_Inv G Gg → ab_gl L0 G0 bs f L Gg = true → ∃ L' G', f L' G' = true ∧ ab_Inv G G'
  | [], L, Gg, hI, h => ⟨L, Gg, h, hI⟩
  | q :: bs, L, Gg, hI, h => by
    have h' : (match ab_lk L q.1 with
      | some v => ab_gl L0 G0 bs f (ab_sto q.1 (ab_kn Gg.1 v) L) (Gg.1 + 1, (Gg.1, (ab_bd L0 G0 q.2.1, ab_bd L0 G0 q.2.2)) :: Gg.2.1, Gg.2.2)
      | none => ab_gl L0 G0 bs f L Gg) = true := h
    split at h'
    · exact ab_gl_ok (hI.push _) h'
    · exact ab_gl_ok hI h'
section LP
variable {BS : Nat → Option ab_C}
theorem ab_gf_ok {G : ab_G} {f : ab_H → ab_G → Bool} : ∀ {bs : List (Nat × Nat × Nat × Int × Int)} {h : ab_H} {Gg : ab_G}, ab_Inv G Gg → ab_gf BS bs f h Gg = true → ∃ h' G', f h' G' = true ∧ ab_Inv G G'
  | [], h, Gg, hI, e => ⟨h, Gg, e, hI⟩
  | q :: bs, h, Gg, hI, e => by
    have h' : (match ab_cl BS h q.1 with
      | some (.inl (ci, fs)) => ab_gf BS bs f (ab_put h q.1 (.inl (ci, (q.2.1, ab_kn Gg.1 (ab_def q.2.2.1)) :: fs))) (Gg.1 + 1, (Gg.1, (q.2.2.2.1, q.2.2.2.2)) :: Gg.2.1, Gg.2.2)
      | _ => ab_gf BS bs f h Gg) = true := e
    split at h'
    · exact ab_gf_ok (hI.push _) h'
    · exact ab_gf_ok hI h'
/-- what stands for the new variables, in numbers -/
noncomputable def ab_r1 (n : Nat) (ρ2 : Nat → Int) (σ : List (Nat × ab_S)) (i : Nat) : Int := if i < n then ρ2 i else match ab_lk σ i with
  | some s => ab_sv ρ2 s
  | none => 0
def ab_sig (n N n2 : Nat) (σ : List (Nat × ab_S)) : Prop := (∀ q ∈ σ, ab_oS n2 q.2) ∧ n ≤ N
theorem ab_ms1_ok {ρ2 : Nat → Int} {G2 : ab_G} (h2 : ab_Sat ρ2 G2) {a s : ab_S} (ha : ab_oS G2.1 a) (hs : ab_oS G2.1 s) (h : ab_ms1 G2 a s = true) : ab_sv ρ2 a = ab_sv ρ2 s := by
  rcases ab_or h with h | h
  · rw [ab_seq_iff h]
  · have e := ab_seq_iff h
    rw [← (ab_nm_ok h2 ha).2, ← (ab_nm_ok h2 hs).2, e]
theorem ab_ms_ok {ρ2 : Nat → Int} {G2 : ab_G} (h2 : ab_Sat ρ2 G2) {σ : List (Nat × ab_S)} {n N : Nat} (hn2 : n ≤ G2.1) (hσ : ∀ i s, n ≤ i → ab_lk σ i = some s → ab_oS G2.1 s ∧ i < N) (hnN : n ≤ N) {a s : ab_S} (hs : ab_oS G2.1 s) (h : ab_ms σ n G2 a s = true) : ab_oS N a ∧ ab_sv (ab_r1 n ρ2 σ) a = ab_sv ρ2 s := by
  cases a with
  | inl c => exact ⟨trivial, ab_ms1_ok (a := .inl c) h2 trivial hs h⟩
  | inr i =>
    have h' : (bif Nat.ble n i then (match ab_lk σ i with
      | some t => ab_ms1 G2 t s
      | none => false) else ab_ms1 G2 (.inr i) s) = true := h
    cases hb : Nat.ble n i
    · rw [hb, cond_false] at h'
      have hlt : i < n := by
        rcases Nat.lt_or_ge i n with q | q
        · exact q
        · rw [Nat.ble_eq_true_of_le q] at hb; cases hb
      refine ⟨Nat.lt_of_lt_of_le hlt hnN, ?_⟩
      rw [← ab_ms1_ok (a := .inr i) h2 (Nat.lt_of_lt_of_le hlt hn2) hs h']
      show ab_r1 n ρ2 σ i = ρ2 i
      unfold ab_r1
      rw [if_pos hlt]
    · rw [hb, cond_true] at h'
      have hle := ab_ble hb
      cases hl : ab_lk σ i with
      | none => rw [hl] at h'; cases h'
      | some t =>
        rw [hl] at h'
        have ht := hσ i t hle hl
        refine ⟨ht.2, ?_⟩
        rw [← ab_ms1_ok h2 ht.1 hs h']
        show ab_r1 n ρ2 σ i = _
        unfold ab_r1
        rw [if_neg (by omega), hl]
variable {dC : Nat → ClassId} {dI : Nat → Nat → Nat} {dA : Nat → ClassId} {NF : Nat → Nat} {FT : Nat → Nat → Nat} {b B : Nat}
/-- cells of numbers alone say the same under all -/
noncomputable def ab_cV : ab_V → Bool
  | .inl (.inl (.inl _)) => true
  | .inl (.inr (.inl _)) => true
  | .inr _ => true
  | _ => false
theorem ab_cV_ok {n n' : Nat} {ρ ρ' : Nat → Int} {v : ab_V} {x : Value} (h : ab_cV v = true) (hx : ab_RV b B n ρ v x) : ab_RV b B n' ρ' v x := by
  match v, h with
  | .inl (.inl (.inl c)), _ => exact hx
  | .inl (.inr (.inl c)), _ => exact hx
  | .inr (.inl _), _ => exact hx
  | .inr (.inr _), _ => exact hx
  | .inl (.inl (.inr _)), h => cases h
  | .inl (.inr (.inr _)), h => cases h
theorem ab_cV_def (t : Nat) : ab_cV (ab_def t) = true := by
  unfold ab_def
  cases Nat.beq t 1 <;> cases Nat.ble 3 t <;> rfl
section MT
variable {ρ2 : Nat → Int} {G2 : ab_G} (h2 : ab_Sat ρ2 G2) {σ : List (Nat × ab_S)} {n N : Nat} (hn2 : n ≤ G2.1) (hσ : ∀ i s, n ≤ i → ab_lk σ i = some s → ab_oS G2.1 s ∧ i < N) (hnN : n ≤ N)
theorem ab_mv_ok (h2 : ab_Sat ρ2 G2) (hn2 : n ≤ G2.1) (hσ : ∀ i s, n ≤ i → ab_lk σ i = some s → ab_oS G2.1 s ∧ i < N) (hnN : n ≤ N) {v w : ab_V} {x : Value} (hx : ab_RV b B G2.1 ρ2 w x) (h : ab_mv σ n G2 v w = true) : ab_RV b B N (ab_r1 n ρ2 σ) v x := by
  match v, w, h with
  | .inl (.inl a), .inl (.inl s), h =>
    obtain ⟨x1, x2, x3⟩ := hx
    obtain ⟨e1, e2⟩ := ab_ms_ok h2 hn2 hσ hnN x3 h
    exact ⟨by rw [e2]; exact x1, by rw [e2]; exact x2, e1⟩
  | .inl (.inr a), .inl (.inr s), h =>
    obtain ⟨x1, x2, x3⟩ := hx
    obtain ⟨e1, e2⟩ := ab_ms_ok h2 hn2 hσ hnN x3 h
    exact ⟨by rw [e2]; exact x1, by rw [e2]; exact x2, e1⟩
  | .inr (.inl a), .inr (.inl s), h =>
    rw [show a = s from ab_beq h]
    exact hx
  | .inr (.inr a), .inr (.inr s), h =>
    rw [show a = s from ab_beq h]
    exact hx
  | .inl (.inl _), .inl (.inr _), h => cases h
  | .inl (.inr _), .inl (.inl _), h => cases h
  | .inr (.inl _), .inr (.inr _), h => cases h
  | .inr (.inr _), .inr (.inl _), h => cases h
  | .inl (.inl _), .inr _, h => cases h
  | .inl (.inr _), .inr _, h => cases h
  | .inr (.inl _), .inl _, h => cases h
  | .inr (.inr _), .inl _, h => cases h
theorem ab_ml_at {L : ab_L} : ∀ {Lg : ab_L}, ab_ml σ n G2 Lg L = true → ∀ q ∈ Lg, ∃ w, ab_lk L q.1 = some w ∧ ab_mv σ n G2 q.2 w = true
  | [], _ => fun q hq => nomatch hq
  | p :: Lg, h => by
    have h' : (match ab_lk L p.1 with
      | some v => bif ab_mv σ n G2 p.2 v then ab_ml σ n G2 Lg L else false
      | none => false) = true := h
    cases hl : ab_lk L p.1 with
    | none => rw [hl] at h'; cases h'
    | some v =>
      rw [hl] at h'
      obtain ⟨a1, a2⟩ := ab_an h'
      intro q hq
      rcases List.mem_cons.mp hq with rfl | hq
      · exact ⟨v, hl, a1⟩
      · exact ab_ml_at a2 q hq
theorem ab_ml_R2 (h2 : ab_Sat ρ2 G2) (hn2 : n ≤ G2.1) (hσ : ∀ i s, n ≤ i → ab_lk σ i = some s → ab_oS G2.1 s ∧ i < N) (hnN : n ≤ N) {L : ab_L} {lv : List (Nat × Value)} (hr : ab_R2 b B G2.1 ρ2 L lv) : ∀ {Lg : ab_L}, (∀ q ∈ Lg, ∃ w, ab_lk L q.1 = some w ∧ ab_mv σ n G2 q.2 w = true) →
    ∃ lg, ab_R2 b B N (ab_r1 n ρ2 σ) Lg lg ∧ ∀ q ∈ lg, q ∈ lv
  | [], _ => ⟨[], trivial, fun q hq => nomatch hq⟩
  | p :: Lg, h => by
    obtain ⟨lg, g1, g2⟩ := ab_ml_R2 h2 hn2 hσ hnN hr (fun q hq => h q (List.mem_cons_of_mem _ hq))
    obtain ⟨w, hw, hm⟩ := h p List.mem_cons_self
    obtain ⟨x, hx, hv⟩ := hr.get hw
    refine ⟨(p.1, x) :: lg, ⟨rfl, ab_mv_ok h2 hn2 hσ hnN hv hm, g1⟩, fun q hq => ?_⟩
    rcases List.mem_cons.mp hq with rfl | hq
    · exact hx
    · exact g2 q hq
theorem ab_ml_RL (h2 : ab_Sat ρ2 G2) (hn2 : n ≤ G2.1) (hσ : ∀ i s, n ≤ i → ab_lk σ i = some s → ab_oS G2.1 s ∧ i < N) (hnN : n ≤ N) {nL : Nat} {L Lg : ab_L} {ls : Array Slot} (hr : ab_RL b B G2.1 ρ2 nL L ls) (h : ab_ml σ n G2 Lg L = true) : ab_RL b B N (ab_r1 n ρ2 σ) nL Lg ls := by
  obtain ⟨lv, h1, h3⟩ := hr
  obtain ⟨lg, g1, g2⟩ := ab_ml_R2 h2 hn2 hσ hnN h3 (ab_ml_at h)
  exact ⟨lg, ⟨h1.1, h1.2.1, fun q hq => h1.2.2 q (g2 q hq)⟩, g1⟩
theorem ab_leq_at (h2 : ab_Sat ρ2 G2) (hn2 : n ≤ G2.1) (hσ : ∀ i s, n ≤ i → ab_lk σ i = some s → ab_oS G2.1 s ∧ i < N) (hnN : n ≤ N) {d e : ab_V} (hd : ab_mv σ n G2 d e = true) {j : Nat} {x : Value} : ∀ {l m : ab_L}, ab_leq σ n G2 l m = true → ab_RV b B G2.1 ρ2 (ab_el e m j) x → ab_RV b B N (ab_r1 n ρ2 σ) (ab_el d l j) x
  | [], [], _, hx => ab_mv_ok h2 hn2 hσ hnN hx hd
  | [], _ :: _, h, _ => by cases h
  | _ :: _, [], h, _ => by cases h
  | q :: l, p :: m, h, hx => by
    have h' : (bif (bif Nat.beq q.1 p.1 then ab_mv σ n G2 q.2 p.2 else false) then ab_leq σ n G2 l m else false) = true := h
    obtain ⟨a1, a2⟩ := ab_an h'
    obtain ⟨a3, a4⟩ := ab_an a1
    obtain ⟨i, v⟩ := q
    obtain ⟨i2, w⟩ := p
    have ei : i = i2 := ab_beq a3
    subst ei
    by_cases e : i = j
    · subst e
      unfold ab_el at hx ⊢
      rw [ab_lk_self] at hx ⊢
      exact ab_mv_ok h2 hn2 hσ hnN hx a4
    · have ih := ab_leq_at h2 hn2 hσ hnN hd (j := j) (x := x) a2
      unfold ab_el at hx ih ⊢
      rw [ab_lk_ne _ _ e] at hx ⊢
      exact ih hx
theorem ab_mc_ok (h2 : ab_Sat ρ2 G2) (hn2 : n ≤ G2.1) (hσ : ∀ i s, n ≤ i → ab_lk σ i = some s → ab_oS G2.1 s ∧ i < N) (hnN : n ≤ N) {x y : ab_C} {oc : Option Cell} (h : ab_mc σ n G2 x y = true) (hr : ab_RC dC dI dA NF FT b B G2.1 ρ2 y oc) : ab_RC dC dI dA NF FT b B N (ab_r1 n ρ2 σ) x oc := by
  match x, y, h with
  | .inl (ci, fs), .inl (cj, gs), h =>
    obtain ⟨a1, a2⟩ := ab_an h
    have ec : ci = cj := ab_beq a1
    subst ec
    obtain ⟨V, ce, g1, g2, g3, g4, g5⟩ := hr
    refine ⟨V, ce, g1, g2, g3, g4, fun k hk => ?_⟩
    have g6 := g5 k hk
    have key : ∀ q, q ∈ fs ++ gs → q.1 = k → ∃ a c, ab_lk fs k = some a ∧ ab_lk gs k = some c ∧ ab_mv σ n G2 a c = true := fun q hq e => by
      have h9 := ab_all_mem a2 q hq
      rw [e] at h9
      cases hf : ab_lk fs k with
      | none => rw [hf] at h9; cases h9
      | some a =>
        cases hg : ab_lk gs k with
        | none => rw [hf, hg] at h9; cases h9
        | some c2 =>
          rw [hf, hg] at h9
          exact ⟨a, c2, rfl, rfl, h9⟩
    unfold ab_fv at g6 ⊢
    cases hf : ab_lk fs k with
    | some a =>
      obtain ⟨a', c', e1, e2, e3⟩ := key (k, a) (List.mem_append_left _ (ab_lk_mem hf)) rfl
      rw [hf] at e1
      cases e1
      rw [e2] at g6
      exact ab_mv_ok h2 hn2 hσ hnN g6 e3
    | none =>
      cases hg : ab_lk gs k with
      | some c2 =>
        obtain ⟨a', c', e1, e2, e3⟩ := key (k, c2) (List.mem_append_right _ (ab_lk_mem hg)) rfl
        rw [hf] at e1
        cases e1
      | none =>
        rw [hg] at g6
        show ab_RV b B N (ab_r1 n ρ2 σ) (ab_def (FT ci k)) (V k)
        exact ab_cV_ok (ab_cV_def _) g6
  | .inr (ty, m, none), .inr (tz, l, ct), h =>
    obtain ⟨a1, a2⟩ := ab_an h
    have e1 : ty = tz := ab_beq a1
    have e2 : m = l := ab_beq a2
    subst e1
    subst e2
    rcases hr with hr | ⟨g1, g2, z, g3, g4⟩
    · exact Or.inl ⟨hr.1, ab_RW.map dA hr.2 (fun _ _ _ _ => trivial)⟩
    · exact Or.inr ⟨g1, g2, z, g3, fun j hj => ⟨(g4 j hj).1, trivial⟩⟩
  | .inr (ty, m, some (d, a)), .inr (tz, l, some (e, c)), h =>
    obtain ⟨a1, a3⟩ := ab_an h
    obtain ⟨a2, a4⟩ := ab_an a3
    obtain ⟨a5, a6⟩ := ab_an a4
    have e1 : ty = tz := ab_beq a1
    have e2 : m = l := ab_beq a2
    subst e1
    subst e2
    rcases hr with hr | ⟨g1, g2, z, g3, g4⟩
    · exact Or.inl ⟨hr.1, ab_RW.map dA hr.2 (fun _ _ _ q => ab_leq_at h2 hn2 hσ hnN a5 a6 q)⟩
    · exact Or.inr ⟨g1, g2, z, g3, fun j hj => ⟨(g4 j hj).1, ab_leq_at h2 hn2 hσ hnN a5 a6 (g4 j hj).2⟩⟩
  | .inr (ty, m, some (d, a)), .inr (tz, l, none), h => cases h
  | .inl (ci, fs), .inr (tz, l, ct), h => cases h
  | .inr (tz, l, none), .inl (ci, fs), h => cases h
  | .inr (tz, l, some (d, a)), .inl (ci, fs), h => cases h
end MT
noncomputable def ab_cC : ab_C → Bool
  | .inl (_, fs) => ab_all (fun q => ab_cV q.2) fs
  | .inr (_, _, none) => true
  | .inr (_, _, some (d, l)) => bif ab_cV d then ab_all (fun q => ab_cV q.2) l else false
theorem ab_cC_ok {n n' : Nat} {ρ ρ' : Nat → Int} {x : ab_C} {oc : Option Cell} (h : ab_cC x = true) (hr : ab_RC dC dI dA NF FT b B n ρ x oc) : ab_RC dC dI dA NF FT b B n' ρ' x oc := by
  match x, h with
  | .inl (ci, fs), h =>
    obtain ⟨V, ce, g1, g2, g3, g4, g5⟩ := hr
    refine ⟨V, ce, g1, g2, g3, g4, fun k hk => ab_cV_ok ?_ (g5 k hk)⟩
    unfold ab_fv
    cases hf : ab_lk fs k with
    | none => exact ab_cV_def _
    | some v => exact ab_all_mem (f := fun q : Nat × ab_V => ab_cV q.2) (l := fs) h (k, v) (ab_lk_mem hf)
  | .inr (ty, m, none), h =>
    rcases hr with hr | ⟨g1, g2, z, g3, g4⟩
    · exact Or.inl ⟨hr.1, ab_RW.map dA hr.2 (fun _ _ _ q => q)⟩
    · exact Or.inr ⟨g1, g2, z, g3, g4⟩
  | .inr (ty, m, some (d, l)), h =>
    obtain ⟨a1, a2⟩ := ab_an h
    have hcv : ∀ j, ab_cV (ab_el d l j) = true := fun j => by
      unfold ab_el
      cases hf : ab_lk l j with
      | none => exact a1
      | some v => exact ab_all_mem (f := fun q : Nat × ab_V => ab_cV q.2) (l := l) a2 (j, v) (ab_lk_mem hf)
    rcases hr with hr | ⟨g1, g2, z, g3, g4⟩
    · exact Or.inl ⟨hr.1, ab_RW.map dA hr.2 (fun j _ _ q => ab_cV_ok (hcv j) q)⟩
    · exact Or.inr ⟨g1, g2, z, g3, fun j hj => ⟨(g4 j hj).1, ab_cV_ok (hcv j) (g4 j hj).2⟩⟩
theorem ab_mh_ok (hBS : ∀ c x, BS c = some x → ab_cC x = true) {ρ2 : Nat → Int} {G2 : ab_G} (h2 : ab_Sat ρ2 G2) {σ : List (Nat × ab_S)} {n N : Nat} (hn2 : n ≤ G2.1) (hσ : ∀ i s, n ≤ i → ab_lk σ i = some s → ab_oS G2.1 s ∧ i < N) (hnN : n ≤ N) {hg h : ab_H} {H : Heap} (hm : ab_mh BS σ n G2 hg h = true) (hr : ab_RH dC dI dA NF FT BS b B G2.1 ρ2 h H) :
    ab_RH dC dI dA NF FT BS b B N (ab_r1 n ρ2 σ) hg H := by
  obtain ⟨a1, a2⟩ := ab_an hm
  have e1 : hg.1 = h.1 := ab_beq a1
  refine ⟨by rw [e1]; exact hr.1, by rw [e1]; exact hr.2.1, fun c x hx => ?_⟩
  have key : ∀ q, q ∈ hg.2 ++ h.2 → q.1 = c → ∃ y, ab_cl BS h c = some y ∧ ab_mc σ n G2 x y = true := fun q hq e => by
    have h9 := ab_all_mem a2 q hq
    rw [e, hx] at h9
    cases hy : ab_cl BS h c with
    | none => rw [hy] at h9; cases h9
    | some y => rw [hy] at h9; exact ⟨y, rfl, h9⟩
  have fin : (∃ y, ab_cl BS h c = some y ∧ ab_mc σ n G2 x y = true) → c < hg.1 ∧ ab_RC dC dI dA NF FT b B N (ab_r1 n ρ2 σ) x H[ab_ad b B c]? := fun ⟨y, h1, h3⟩ => by
    have h4 := hr.2.2 c y h1
    exact ⟨by rw [e1]; exact h4.1, ab_mc_ok h2 hn2 hσ hnN h3 h4.2⟩
  cases hf : ab_lk hg.2 c with
  | some v => exact fin (key (c, v) (List.mem_append_left _ (ab_lk_mem hf)) rfl)
  | none =>
    cases hg2 : ab_lk h.2 c with
    | some v => exact fin (key (c, v) (List.mem_append_right _ (ab_lk_mem hg2)) rfl)
    | none =>
      have hx' : BS c = some x := by
        unfold ab_cl at hx
        rw [hf] at hx
        exact hx
      have hy : ab_cl BS h c = some x := by
        unfold ab_cl
        rw [hg2]
        exact hx'
      have h4 := hr.2.2 c x hy
      exact ⟨by rw [e1]; exact h4.1, ab_cC_ok (hBS c x hx') h4.2⟩
/-- the bounds -/
theorem ab_bk_ok {σ : List (Nat × ab_S)} {n : Nat} {Gg G2 : ab_G} (h : ab_bk σ n Gg G2 = true) : ∀ i, n ≤ i → i < Gg.1 → ∃ s, ab_lk σ i = some s ∧ ab_oS G2.1 s ∧ (ab_ivI Gg i).1 ≤ (ab_ivS G2 s).1 ∧ (ab_ivS G2 s).2 ≤ (ab_ivI Gg i).2 := by
  have go : ∀ m : Nat, (Nat.rec (motive := fun _ => Bool) true (fun j r => bif (match ab_lk σ (n + j) with
    | some s => bif (bif ab_os G2.1 s then ab_le (ab_ivI Gg (n + j)).1 (ab_ivS G2 s).1 else false) then ab_le (ab_ivS G2 s).2 (ab_ivI Gg (n + j)).2 else false
    | none => false) then r else false) m : Bool) = true → ∀ j, j < m → ∃ s, ab_lk σ (n + j) = some s ∧ ab_oS G2.1 s ∧ (ab_ivI Gg (n + j)).1 ≤ (ab_ivS G2 s).1 ∧ (ab_ivS G2 s).2 ≤ (ab_ivI Gg (n + j)).2 := by
    intro m
    induction m with
    | zero => intro _ j hj; omega
    | succ m ih =>
      intro hm j hj
      obtain ⟨a1, a2⟩ := ab_an hm
      by_cases e : j = m
      · subst e
        cases hl : ab_lk σ (n + j) with
        | none => rw [hl] at a1; cases a1
        | some s =>
          rw [hl] at a1
          obtain ⟨a3, a4⟩ := ab_an a1
          obtain ⟨a5, a6⟩ := ab_an a3
          refine ⟨s, rfl, ?_, (ab_le_iff _ _).mp a6, (ab_le_iff _ _).mp a4⟩
          cases s with
          | inl c => trivial
          | inr i => exact ab_ble a5
      · exact ih a2 j (by omega)
  intro i h1 h3
  have := go (Gg.1 - n) h (i - n) (by omega)
  rw [show n + (i - n) = i by omega] at this
  exact this
/-- what is gathered is of the pattern's variables -/
theorem ab_bv_ok {n N : Nat} {G2 : ab_G} {v w : ab_V} {r : List (Nat × ab_S)} (hr : ∀ q ∈ r, q.1 < N) : ∀ q ∈ ab_bv n N G2 v w r, q.1 < N := by
  have key : ∀ i s, ∀ q ∈ (bif (bif Nat.ble n i then Nat.ble (i + 1) N else false) then (i, ab_nm G2 s) :: r else r), q.1 < N := by
    intro i s q hq
    cases hb : (bif Nat.ble n i then Nat.ble (i + 1) N else false)
    · rw [hb] at hq
      exact hr q hq
    · rw [hb] at hq
      rcases List.mem_cons.mp hq with rfl | hq
      · exact ab_ble (ab_an hb).2
      · exact hr q hq
  unfold ab_bv
  split
  · exact key _ _
  · exact key _ _
  · exact hr
theorem ab_bl_ok {n N : Nat} {G2 : ab_G} {L : ab_L} {r : List (Nat × ab_S)} (hr : ∀ q ∈ r, q.1 < N) : ∀ Lg : ab_L, ∀ q ∈ ab_bl n N G2 Lg L r, q.1 < N
  | [] => hr
  | q :: Lg => by
    have ih := ab_bl_ok (n := n) (G2 := G2) (L := L) hr Lg
    show ∀ z ∈ (match ab_lk L q.1 with
      | some w => ab_bv n N G2 q.2 w (ab_bl n N G2 Lg L r)
      | none => ab_bl n N G2 Lg L r), z.1 < N
    cases hl : ab_lk L q.1 with
    | none => exact ih
    | some w => exact ab_bv_ok ih
theorem ab_bh_ok {n N : Nat} {G2 : ab_G} {hg h : ab_H} : ∀ fs : List (Nat × Nat × Nat × Int × Int), ∀ q ∈ ab_bh BS n N G2 hg h fs, q.1 < N
  | [] => fun q hq => nomatch hq
  | f :: fs => by
    have ih := ab_bh_ok (n := n) (N := N) (G2 := G2) (hg := hg) (h := h) fs
    show ∀ z ∈ (match ab_cl BS hg f.1, ab_cl BS h f.1 with
      | some (.inl (_, fg)), some (.inl (_, fa)) => (match ab_lk fg f.2.1, ab_lk fa f.2.1 with
        | some v, some w => ab_bv n N G2 v w (ab_bh BS n N G2 hg h fs)
        | _, _ => ab_bh BS n N G2 hg h fs)
      | _, _ => ab_bh BS n N G2 hg h fs), z.1 < N
    split
    · split
      · exact ab_bv_ok ih
      · exact ih
    · exact ih
/-- an instance of the pattern -/
def ab_In (dC : Nat → ClassId) (dI : Nat → Nat → Nat) (dA : Nat → ClassId) (NF : Nat → Nat) (FT : Nat → Nat → Nat) (BS : Nat → Option ab_C) (b B nL n : Nat) (ρ : Nat → Int) (Gg : ab_G) (Lg : ab_L) (hg : ab_H) (ρ1 : Nat → Int) (ls : Array Slot) (H : Heap) : Prop :=
  ab_Ext n ρ Gg.1 ρ1 ∧ ab_Sat ρ1 Gg ∧ ab_RL b B Gg.1 ρ1 nL Lg ls ∧ ab_RH dC dI dA NF FT BS b B Gg.1 ρ1 hg H
theorem ab_mt_ok (hBS : ∀ c x, BS c = some x → ab_cC x = true) {fs : List (Nat × Nat × Nat × Int × Int)} {ρ ρ2 : Nat → Int} {G Gg G2 : ab_G} {Lg L2 : ab_L} {hg h2' : ab_H} {nL : Nat} {ls : Array Slot} {H : Heap} (hG : ab_Sat ρ G) (hI : ab_Inv G Gg) (h2 : ab_Sat ρ2 G2) (hE : ab_Ext G.1 ρ G2.1 ρ2)
    (hm : ab_mt BS fs G.1 Gg G2 Lg L2 hg h2' = true) (hL : ab_RL b B G2.1 ρ2 nL L2 ls) (hH : ab_RH dC dI dA NF FT BS b B G2.1 ρ2 h2' H) :
    ∃ ρ1, ab_In dC dI dA NF FT BS b B nL G.1 ρ Gg Lg hg ρ1 ls H ∧
      (∀ r i m, ab_lk Lg r = some (.inl (.inl (.inr i))) → ab_lk L2 r = some (.inl (.inl m)) → ρ1 i = ab_sv ρ2 m) ∧ (∀ r i m, ab_lk Lg r = some (.inl (.inr (.inr i))) → ab_lk L2 r = some (.inl (.inr m)) → ρ1 i = ab_sv ρ2 m) := by
  have hm' : ab_mt2 BS G.1 Gg G2 Lg L2 hg h2' (ab_bl G.1 Gg.1 G2 Lg L2 (ab_bh BS G.1 Gg.1 G2 hg h2' fs)) = true := hm
  have hσ0 := ab_bl_ok (n := G.1) (N := Gg.1) (G2 := G2) (L := L2) (ab_bh_ok (BS := BS) (n := G.1) (N := Gg.1) (G2 := G2) (hg := hg) (h := h2') fs) Lg
  generalize ab_bl G.1 Gg.1 G2 Lg L2 (ab_bh BS G.1 Gg.1 G2 hg h2' fs) = σ at hm' hσ0
  obtain ⟨a1, a2⟩ := ab_an hm'
  obtain ⟨a3, a4⟩ := ab_an a2
  have hb := ab_bk_ok a1
  obtain ⟨i1, i2, i3, i4, i5⟩ := hI
  -- where the lookup is of a pattern's own variable its scalar is the state's
  have hσ' : ∀ i s, G.1 ≤ i → ab_lk σ i = some s → ab_oS G2.1 s ∧ i < Gg.1 := fun i s hi hs => by
    have hlt := hσ0 (i, s) (ab_lk_mem hs)
    obtain ⟨s', e1, e2, -⟩ := hb i hi hlt
    rw [hs] at e1
    cases e1
    exact ⟨e2, hlt⟩
  have hlow : ∀ i, i < G.1 → ab_r1 G.1 ρ2 σ i = ρ i := fun i hi => by
    unfold ab_r1
    rw [if_pos hi]
    exact hE.2 i hi
  have hExt : ab_Ext G.1 ρ Gg.1 (ab_r1 G.1 ρ2 σ) := ⟨i1, hlow⟩
  refine ⟨ab_r1 G.1 ρ2 σ, ⟨hExt, ⟨fun i p hp => ?_, i5, fun f hf => ?_, fun d hd => ?_⟩, ab_ml_RL h2 hE.1 hσ' i1 hL a3, ab_mh_ok hBS h2 hE.1 hσ' i1 a4 hH⟩, fun r i m h1 h3 => ?_, fun r i m h1 h3 => ?_⟩
  · refine ⟨i4 i p hp, ?_⟩
    by_cases hi : i < G.1
    · rw [i3 i hi] at hp
      rw [hlow i hi]
      exact (hG.1 i p hp).2
    · have hi' : G.1 ≤ i := by omega
      obtain ⟨s, e1, e2, e3, e4⟩ := hb i hi' (i4 i p hp)
      have hv := ab_iv_ok h2 e2
      have ep : ab_ivI Gg i = p := by unfold ab_ivI; rw [hp]
      rw [ep] at e3 e4
      have er : ab_r1 G.1 ρ2 σ i = ab_sv ρ2 s := by unfold ab_r1; rw [if_neg hi, e1]
      rw [er]
      exact ⟨Int.le_trans e3 hv.1, Int.le_trans hv.2 e4⟩
  · rw [i2] at hf
    obtain ⟨f1, f2, f3, f4⟩ := hG.2.2.1 f hf
    exact ⟨hExt.oS f1, hExt.oS f2, f3, by rw [hExt.sv f1, hExt.sv f2]; exact f4⟩
  · rw [i2] at hd
    obtain ⟨f1, f2, f3, f4⟩ := hG.2.2.2 d hd
    exact ⟨hExt.oS f1, hExt.oS f2, Nat.lt_of_lt_of_le f3 i1, by rw [hlow _ f3, hExt.sv f1, hExt.sv f2]; exact f4⟩
  · obtain ⟨w, e1, e2⟩ := ab_ml_at a3 (r, _) (ab_lk_mem h1)
    have e1' : ab_lk L2 r = some w := e1
    rw [h3] at e1'
    cases e1'
    obtain ⟨x, -, hx⟩ := hL.get h3
    exact (ab_ms_ok (a := .inr i) h2 hE.1 hσ' i1 hx.2.2 e2).2
  · obtain ⟨w, e1, e2⟩ := ab_ml_at a3 (r, _) (ab_lk_mem h1)
    have e1' : ab_lk L2 r = some w := e1
    rw [h3] at e1'
    cases e1'
    obtain ⟨x, -, hx⟩ := hL.get h3
    exact (ab_ms_ok (a := .inr i) h2 hE.1 hσ' i1 hx.2.2 e2).2
/-- the local that moves -/
theorem ab_mvd_ok {ρ2 : Nat → Int} {G2 : ab_G} (h2 : ab_Sat ρ2 G2) {up i m : Nat} (hi : i < G2.1) : ∀ {l : List ab_D}, (∀ d ∈ l, d ∈ G2.2.2.2) → ab_mvd G2 up i m l = true → (up = 1 ∧ ρ2 i + 1 ≤ ρ2 m) ∨ (up ≠ 1 ∧ ρ2 m + 1 ≤ ρ2 i)
  | [], _, h => by cases h
  | (op, a, c, r) :: l, hl, h => by
    have ih := fun q => ab_mvd_ok h2 hi (l := l) (up := up) (m := m) (fun d hd => hl d (List.mem_cons_of_mem _ hd)) q
    have hd := h2.2.2.2 (op, a, c, r) (hl _ List.mem_cons_self)
    obtain ⟨d1, d2, d3, d4⟩ := hd
    dsimp only at d1 d2 d3 d4
    have rem : ∀ j, c = .inr j → (bif Nat.beq r m then (bif (bif (bif Nat.beq op 4 then Nat.beq j i else false) then Nat.beq up 0 else false) then ab_le 1 (ab_ivI G2 i).1 else ab_mvd G2 up i m l) else ab_mvd G2 up i m l) = true → (up = 1 ∧ ρ2 i + 1 ≤ ρ2 m) ∨ (up ≠ 1 ∧ ρ2 m + 1 ≤ ρ2 i) := fun j hc h' => by
      subst hc
      cases hr : Nat.beq r m
      · rw [hr] at h'
        exact ih h'
      · rw [hr, cond_true] at h'
        have er : r = m := ab_beq hr
        subst er
        rcases ab_if h' with ⟨e1, e2⟩ | ⟨e1, e2⟩
        · obtain ⟨e3, e7⟩ := ab_an e1
          obtain ⟨e3, e4⟩ := ab_an e3
          have eo : op = 4 := ab_beq e3
          have ej : j = i := ab_beq e4
          have eu : up = 0 := ab_beq e7
          subst eo
          subst ej
          have d5 : ρ2 r = (ab_sv ρ2 a).tmod (ρ2 j) := d4
          have h1 := (ab_le_iff _ _).mp e2
          have h3 := ab_iv_ok h2 (s := .inr j) hi
          have h4 : (1 : Int) ≤ ρ2 j := Int.le_trans h1 h3.1
          have h5 := ab_tm_pos (a := ab_sv ρ2 a) h4
          exact Or.inr ⟨by omega, by omega⟩
        · exact ih e2
    cases c with
    | inr j => cases a with
      | inl _ => exact rem j rfl h
      | inr _ => exact rem j rfl h
    | inl c => cases a with
      | inl _ =>
        have h' : (bif Nat.beq r m then ab_mvd G2 up i m l else ab_mvd G2 up i m l) = true := h
        cases hr : Nat.beq r m <;> rw [hr] at h' <;> exact ih h'
      | inr j =>
        have h' : (bif Nat.beq r m then (bif (bif Nat.beq op 0 then Nat.beq j i else false) then (bif Nat.beq up 1 then ab_le 1 c else ab_le c (-1)) else ab_mvd G2 up i m l) else ab_mvd G2 up i m l) = true := h
        cases hr : Nat.beq r m
        · rw [hr] at h'
          exact ih h'
        · rw [hr, cond_true] at h'
          have er : r = m := ab_beq hr
          subst er
          rcases ab_if h' with ⟨e1, e2⟩ | ⟨e1, e2⟩
          · obtain ⟨e3, e4⟩ := ab_an e1
            have eo : op = 0 := ab_beq e3
            have ej : j = i := ab_beq e4
            subst eo
            subst ej
            have d5 : ρ2 r = ρ2 j + c := d4
            rcases ab_if e2 with ⟨e5, e6⟩ | ⟨e5, e6⟩
            · have := (ab_le_iff _ _).mp e6
              exact Or.inl ⟨ab_beq e5, by omega⟩
            · have := (ab_le_iff _ _).mp e6
              exact Or.inr ⟨Nat.ne_of_beq_eq_false e5, by omega⟩
          · exact ih e2
theorem ab_rk2_ok {ρ2 : Nat → Int} {G2 : ab_G} (h2 : ab_Sat ρ2 G2) {up i : Nat} {m : ab_S} (hi : i < G2.1) (hm : ab_oS G2.1 m) (h : ab_rk2 G2 up i m = true) : (up = 1 ∧ ρ2 i + 1 ≤ ab_sv ρ2 m) ∨ (up ≠ 1 ∧ ab_sv ρ2 m + 1 ≤ ρ2 i) := by
  have v1 : (ab_ivI G2 i).1 ≤ ρ2 i ∧ ρ2 i ≤ (ab_ivI G2 i).2 := ab_iv_ok h2 (s := .inr i) hi
  have v2 := ab_iv_ok h2 hm
  unfold ab_rk2 at h
  rcases ab_if h with ⟨q, -⟩ | ⟨-, q⟩
  · rcases ab_if q with ⟨e1, e2⟩ | ⟨e1, e2⟩
    · have := (ab_le_iff _ _).mp e2
      exact Or.inl ⟨ab_beq e1, by omega⟩
    · have := (ab_le_iff _ _).mp e2
      exact Or.inr ⟨Nat.ne_of_beq_eq_false e1, by omega⟩
  · cases m with
    | inl c => cases q
    | inr m => exact ab_mvd_ok h2 hi (fun d hd => hd) q
theorem ab_rk_ok {ρ2 : Nat → Int} {G2 : ab_G} (h2 : ab_Sat ρ2 G2) {r up : Nat} {Lg L2 : ab_L} (hi : ∀ i, (ab_lk Lg r = some (.inl (.inl (.inr i))) ∨ ab_lk Lg r = some (.inl (.inr (.inr i)))) → i < G2.1) (hm : ∀ s, (ab_lk L2 r = some (.inl (.inl s)) ∨ ab_lk L2 r = some (.inl (.inr s))) → ab_oS G2.1 s) (h : ab_rk r up Lg L2 G2 = true) :
    ∃ i m, ((ab_lk Lg r = some (.inl (.inl (.inr i))) ∧ ab_lk L2 r = some (.inl (.inl m))) ∨ (ab_lk Lg r = some (.inl (.inr (.inr i))) ∧ ab_lk L2 r = some (.inl (.inr m)))) ∧ ((up = 1 ∧ ρ2 i + 1 ≤ ab_sv ρ2 m) ∨ (up ≠ 1 ∧ ab_sv ρ2 m + 1 ≤ ρ2 i)) := by
  unfold ab_rk at h
  split at h
  · rename_i i m e1 e2
    exact ⟨i, m, Or.inl ⟨e1, e2⟩, ab_rk2_ok h2 (hi i (Or.inl e1)) (hm m (Or.inl e2)) h⟩
  · rename_i i m e1 e2
    exact ⟨i, m, Or.inr ⟨e1, e2⟩, ab_rk2_ok h2 (hi i (Or.inr e1)) (hm m (Or.inr e2)) h⟩
  · cases h
end LP
