/-! BRANCHES: what a condition leaves. -/
theorem ab_h0 (x y : Int) : ab_hold 0 x y = true ↔ x = y := ab_eq_iff x y
theorem ab_h1 (x y : Int) : ab_hold 1 x y = true ↔ x ≠ y := by
  show (bif ab_eq x y then false else true) = true ↔ _
  cases h : ab_eq x y
  · exact ⟨fun _ => ab_neq h, fun _ => rfl⟩
  · exact ⟨fun q => (by cases q), fun q => absurd ((ab_eq_iff x y).mp h) q⟩
theorem ab_h2 (x y : Int) : ab_hold 2 x y = true ↔ x < y := by
  show (bif ab_le y x then false else true) = true ↔ _
  cases h : ab_le y x
  · exact ⟨fun _ => ab_nle h, fun _ => rfl⟩
  · have := (ab_le_iff y x).mp h
    exact ⟨fun q => (by cases q), fun q => by omega⟩
theorem ab_h3 (x y : Int) : ab_hold 3 x y = true ↔ y ≤ x := ab_le_iff y x
theorem ab_h4 (x y : Int) : ab_hold 4 x y = true ↔ y < x := by
  show (bif ab_le x y then false else true) = true ↔ _
  cases h : ab_le x y
  · exact ⟨fun _ => ab_nle h, fun _ => rfl⟩
  · have := (ab_le_iff x y).mp h
    exact ⟨fun q => (by cases q), fun q => by omega⟩
theorem ab_h5 (x y : Int) : ab_hold 5 x y = true ↔ x ≤ y := ab_le_iff x y
theorem ab_c5 {P : Nat → Prop} (h0 : P 0) (h1 : P 1) (h2 : P 2) (h3 : P 3) (h4 : P 4) (h5 : P 5) {c : Nat} (h : c ≤ 5) : P c := by
  match c, h with
  | 0, _ => exact h0
  | 1, _ => exact h1
  | 2, _ => exact h2
  | 3, _ => exact h3
  | 4, _ => exact h4
  | 5, _ => exact h5
  | n + 6, h => omega
theorem ab_hng {c : Nat} (h : c ≤ 5) (x y : Int) : ab_ng c ≤ 5 ∧ (ab_hold (ab_ng c) x y = true ↔ ¬ ab_hold c x y = true) := by
  refine ab_c5 (P := fun c => ab_ng c ≤ 5 ∧ (ab_hold (ab_ng c) x y = true ↔ ¬ ab_hold c x y = true)) ?_ ?_ ?_ ?_ ?_ ?_ h
  · exact ⟨by decide, by rw [show ab_ng 0 = 1 from rfl, ab_h0, ab_h1]⟩
  · exact ⟨by decide, by rw [show ab_ng 1 = 0 from rfl, ab_h0, ab_h1]; omega⟩
  · exact ⟨by decide, by rw [show ab_ng 2 = 3 from rfl, ab_h2, ab_h3]; omega⟩
  · exact ⟨by decide, by rw [show ab_ng 3 = 2 from rfl, ab_h2, ab_h3]; omega⟩
  · exact ⟨by decide, by rw [show ab_ng 4 = 5 from rfl, ab_h4, ab_h5]; omega⟩
  · exact ⟨by decide, by rw [show ab_ng 5 = 4 from rfl, ab_h4, ab_h5]; omega⟩
theorem ab_hfl {c : Nat} (h : c ≤ 5) (x y : Int) : ab_fl c ≤ 5 ∧ (ab_hold (ab_fl c) x y = true ↔ ab_hold c y x = true) := by
  refine ab_c5 (P := fun c => ab_fl c ≤ 5 ∧ (ab_hold (ab_fl c) x y = true ↔ ab_hold c y x = true)) ?_ ?_ ?_ ?_ ?_ ?_ h
  · exact ⟨by decide, by rw [show ab_fl 0 = 0 from rfl, ab_h0, ab_h0]; omega⟩
  · exact ⟨by decide, by rw [show ab_fl 1 = 1 from rfl, ab_h1, ab_h1]; omega⟩
  · exact ⟨by decide, by rw [show ab_fl 2 = 4 from rfl, ab_h4, ab_h2]⟩
  · exact ⟨by decide, by rw [show ab_fl 3 = 5 from rfl, ab_h5, ab_h3]⟩
  · exact ⟨by decide, by rw [show ab_fl 4 = 2 from rfl, ab_h4, ab_h2]⟩
  · exact ⟨by decide, by rw [show ab_fl 5 = 3 from rfl, ab_h5, ab_h3]⟩
theorem ab_im_all : ∀ c1 c2 : Fin 6, ab_im c1.val c2.val = true → c1.val = c2.val ∨ (c1.val = 0 ∧ (c2.val = 3 ∨ c2.val = 5)) ∨ (c1.val = 2 ∧ (c2.val = 5 ∨ c2.val = 1)) ∨ (c1.val = 4 ∧ (c2.val = 3 ∨ c2.val = 1)) := by decide +kernel
theorem ab_him {c1 c2 : Nat} (h1 : c1 ≤ 5) (h2 : c2 ≤ 5) (h : ab_im c1 c2 = true) {x y : Int} (hx : ab_hold c1 x y = true) : ab_hold c2 x y = true := by
  rcases ab_im_all ⟨c1, Nat.lt_succ_of_le h1⟩ ⟨c2, Nat.lt_succ_of_le h2⟩ h with rfl | ⟨rfl, rfl | rfl⟩ | ⟨rfl, rfl | rfl⟩ | ⟨rfl, rfl | rfl⟩
  · exact hx
  · rw [ab_h0] at hx; rw [ab_h3]; omega
  · rw [ab_h0] at hx; rw [ab_h5]; omega
  · rw [ab_h2] at hx; rw [ab_h5]; omega
  · rw [ab_h2] at hx; rw [ab_h1]; omega
  · rw [ab_h4] at hx; rw [ab_h3]; omega
  · rw [ab_h4] at hx; rw [ab_h1]; omega
theorem ab_bool {b : Bool} (h : ¬ b = true) : b = false := by
  cases b
  · rfl
  · exact absurd rfl h
theorem ab_say {c d : Nat} (hc : c ≤ 5) (hd : d ≤ 5) {x y : Int} (hx : ab_hold d x y = true) {t : Bool} {r : Option Bool} (hr : r = some t → ab_hold c x y = t)
    (h : (bif ab_im d c then some true else bif ab_im d (ab_ng c) then some false else r) = some t) : ab_hold c x y = t := by
  cases h1 : ab_im d c
  · rw [h1] at h
    cases h2 : ab_im d (ab_ng c)
    · rw [h2] at h
      exact hr h
    · rw [h2] at h
      cases h
      obtain ⟨h3, h4⟩ := ab_hng hc x y
      exact ab_bool (h4.mp (ab_him hd h3 h2 hx))
  · rw [h1] at h
    cases h
    exact ab_him hd hc h1 hx
theorem ab_known_ok {ρ : Nat → Int} {c : Nat} (hc : c ≤ 5) {a b : ab_S} {t : Bool} : ∀ {l : List ab_F}, (∀ f ∈ l, f.1 ≤ 5 ∧ ab_hold f.1 (ab_sv ρ f.2.1) (ab_sv ρ f.2.2) = true) → ab_known c a b l = some t → ab_hold c (ab_sv ρ a) (ab_sv ρ b) = t
  | [], _, h => by cases h
  | d :: l, hl, h => by
    have ih := ab_known_ok (t := t) hc (a := a) (b := b) (l := l) (fun f hf => hl f (List.mem_cons_of_mem _ hf))
    obtain ⟨d1, d2⟩ := hl d List.mem_cons_self
    have h2 : (bif (bif ab_seq d.2.1 a then ab_seq d.2.2 b else false) then (bif ab_im d.1 c then some true else bif ab_im d.1 (ab_ng c) then some false else ab_known c a b l) else
      bif (bif ab_seq d.2.1 b then ab_seq d.2.2 a else false) then (bif ab_im (ab_fl d.1) c then some true else bif ab_im (ab_fl d.1) (ab_ng c) then some false else ab_known c a b l) else ab_known c a b l) = some t := h
    cases q1 : (bif ab_seq d.2.1 a then ab_seq d.2.2 b else false)
    · rw [q1] at h2
      cases q2 : (bif ab_seq d.2.1 b then ab_seq d.2.2 a else false)
      · rw [q2] at h2
        exact ih h2
      · rw [q2] at h2
        obtain ⟨e1, e2⟩ := ab_an q2
        have e1 := ab_seq_iff e1
        have e2 := ab_seq_iff e2
        rw [e1, e2] at d2
        obtain ⟨f1, f2⟩ := ab_hfl d1 (ab_sv ρ a) (ab_sv ρ b)
        exact ab_say hc f1 (f2.mpr d2) ih h2
    · rw [q1] at h2
      obtain ⟨e1, e2⟩ := ab_an q1
      have e1 := ab_seq_iff e1
      have e2 := ab_seq_iff e2
      rw [e1, e2] at d2
      exact ab_say hc d1 d2 ih h2
theorem ab_cut_ok {ρ : Nat → Int} {G : ab_G} (hs : ab_Sat ρ G) {i : Nat} (hi : i < G.1) {p q : Int} (hp : p ≤ ρ i ∧ ρ i ≤ q) : ab_Sat ρ (G.1, (i, (p, q)) :: G.2.1, G.2.2) := by
  refine ⟨?_, ?_, hs.2.2.1, hs.2.2.2⟩
  · intro j r hr
    by_cases e : j = i
    · subst e
      rw [ab_lk_self] at hr
      cases hr
      exact ⟨hi, hp⟩
    · rw [ab_lk_ne _ _ (fun q => e q.symm)] at hr
      exact hs.1 j r hr
  · intro j hj
    by_cases e : j = i
    · subst e
      exact ⟨_, ab_lk_self _ _ _⟩
    · obtain ⟨r, hr⟩ := hs.2.1 j hj
      exact ⟨r, by rw [ab_lk_ne _ _ (fun q => e q.symm)]; exact hr⟩
theorem ab_fact_ok {ρ : Nat → Int} {G : ab_G} (hs : ab_Sat ρ G) {c : Nat} {a b : ab_S} (hc : c ≤ 5) (ha : ab_oS G.1 a) (hb : ab_oS G.1 b) (h : ab_hold c (ab_sv ρ a) (ab_sv ρ b) = true) : ab_Sat ρ (G.1, G.2.1, (c, a, b) :: G.2.2.1, G.2.2.2) := by
  refine ⟨hs.1, hs.2.1, ?_, hs.2.2.2⟩
  intro f hf
  rcases List.mem_cons.mp hf with rfl | hf
  · exact ⟨ha, hb, hc, h⟩
  · exact hs.2.2.1 f hf
def ab_Z (G : ab_G) (ρ : Nat → Int) (f : ab_G → Bool) : Prop := ∃ G', f G' = true ∧ ab_Sat ρ G' ∧ G'.1 = G.1
theorem ab_ct_ok {ρ : Nat → Int} {G : ab_G} (hs : ab_Sat ρ G) {a : ab_S} (ha : ab_oS G.1 a) {p q : Int} (hp : p ≤ ab_sv ρ a ∧ ab_sv ρ a ≤ q) : ab_Sat ρ (ab_ct G a p q) ∧ (ab_ct G a p q).1 = G.1 := by
  cases a with
  | inl c => exact ⟨hs, rfl⟩
  | inr i => exact ⟨ab_cut_ok hs ha hp, rfl⟩
theorem ab_one_ok {ρ : Nat → Int} {G : ab_G} (hs : ab_Sat ρ G) {c : Nat} {a b : ab_S} (hc : c ≤ 5) (ha : ab_oS G.1 a) (hb : ab_oS G.1 b) (hv : ∀ x y, a = .inl x → b = .inl y → False) (hh : ab_hold c (ab_sv ρ a) (ab_sv ρ b) = true) {p1 q1 p2 q2 : Int}
    (h1 : p1 ≤ ab_sv ρ a ∧ ab_sv ρ a ≤ q1) (h2 : p2 ≤ ab_sv ρ b ∧ ab_sv ρ b ≤ q2) {f : ab_G → Bool} (h : ab_one c a b p1 q1 p2 q2 G f = true) : ab_Z G ρ f := by
  unfold ab_one at h
  have e : (bif ab_le p1 q1 then ab_le p2 q2 else false) = true := by
    rw [(ab_le_iff p1 q1).mpr (by omega), (ab_le_iff p2 q2).mpr (by omega)]; rfl
  rw [e] at h
  cases a with
  | inl x =>
    cases b with
    | inl y => exact (hv x y rfl rfl).elim
    | inr j => exact ⟨_, h, ab_cut_ok hs hb h2, rfl⟩
  | inr i =>
    cases b with
    | inl y => exact ⟨_, h, ab_cut_ok hs ha h1, rfl⟩
    | inr j =>
      have s1 := ab_cut_ok hs hb h2
      have s2 := ab_cut_ok s1 ha h1
      exact ⟨_, h, ab_fact_ok s2 hc ha hb hh, rfl⟩
theorem ab_side_ok {ρ : Nat → Int} {G : ab_G} (hs : ab_Sat ρ G) {c : Nat} {a b : ab_S} (hc : c ≤ 5) (ha : ab_oS G.1 a) (hb : ab_oS G.1 b) (hv : ∀ x y, a = .inl x → b = .inl y → False) (hh : ab_hold c (ab_sv ρ a) (ab_sv ρ b) = true)
    {f : ab_G → Bool} (h : ab_side c a b (ab_ivS G a) (ab_ivS G b) G f = true) : ab_Z G ρ f := by
  have i1 := ab_iv_ok hs ha
  have i2 := ab_iv_ok hs hb
  unfold ab_side at h
  rw [ab_max_eq, ab_max_eq, ab_max_eq, ab_max_eq, ab_min_eq, ab_min_eq, ab_min_eq, ab_min_eq] at h
  rcases ab_if h with ⟨e, g⟩ | ⟨e0, g⟩
  · cases ab_beq e
    have q := (ab_h0 _ _).mp hh
    exact ab_one_ok hs (by decide) ha hb hv hh (by omega) (by omega) g
  rcases ab_if g with ⟨e, g⟩ | ⟨e2, g⟩
  · cases ab_beq e
    have q := (ab_h2 _ _).mp hh
    exact ab_one_ok hs (by decide) ha hb hv hh (by omega) (by omega) g
  rcases ab_if g with ⟨e, g⟩ | ⟨e3, g⟩
  · cases ab_beq e
    have q := (ab_h3 _ _).mp hh
    exact ab_one_ok hs (by decide) ha hb hv hh (by omega) (by omega) g
  rcases ab_if g with ⟨e, g⟩ | ⟨e4, g⟩
  · cases ab_beq e
    have q := (ab_h4 _ _).mp hh
    exact ab_one_ok hs (by decide) ha hb hv hh (by omega) (by omega) g
  rcases ab_if g with ⟨e, g⟩ | ⟨e5, g⟩
  · cases ab_beq e
    have q := (ab_h5 _ _).mp hh
    exact ab_one_ok hs (by decide) ha hb hv hh (by omega) (by omega) g
  have hc1 : c = 1 := by
    revert e0 e2 e3 e4 e5
    refine ab_c5 (P := fun c => Nat.beq c 0 = false → Nat.beq c 2 = false → Nat.beq c 3 = false → Nat.beq c 4 = false → Nat.beq c 5 = false → c = 1) ?_ ?_ ?_ ?_ ?_ ?_ hc
    all_goals intro a1 a2 a3 a4 a5
    all_goals first | rfl | (cases a1; done) | (cases a2; done) | (cases a3; done) | (cases a4; done) | (cases a5; done)
  subst hc1
  have q := (ab_h1 _ _).mp hh
  have two : ∀ {a b : ab_S}, ab_oS G.1 a → ab_oS G.1 b → (∀ x y, a = .inl x → b = .inl y → False) → ab_sv ρ a ≠ ab_sv ρ b → (ab_ivS G a).1 ≤ ab_sv ρ a ∧ ab_sv ρ a ≤ (ab_ivS G a).2 → (ab_ivS G b).1 ≤ ab_sv ρ b ∧ ab_sv ρ b ≤ (ab_ivS G b).2 →
      (bif ab_one 2 a b (ab_ivS G a).1 (min (ab_ivS G a).2 ((ab_ivS G b).2 - 1)) (max (ab_ivS G b).1 ((ab_ivS G a).1 + 1)) (ab_ivS G b).2 G f then ab_one 4 a b (max (ab_ivS G a).1 ((ab_ivS G b).1 + 1)) (ab_ivS G a).2 (ab_ivS G b).1 (min (ab_ivS G b).2 ((ab_ivS G a).2 - 1)) G f else false) = true → ab_Z G ρ f := by
    intro a b ha hb hv q i1 i2 h
    obtain ⟨g1, g2⟩ := ab_an h
    rcases Int.lt_or_gt_of_ne q with l | l
    · exact ab_one_ok hs (c := 2) (by decide) ha hb hv ((ab_h2 _ _).mpr l) (by omega) (by omega) g1
    · exact ab_one_ok hs (c := 4) (by decide) ha hb hv ((ab_h4 _ _).mpr l) (by omega) (by omega) g2
  cases a with
  | inl x =>
    cases b with
    | inl y => exact (hv x y rfl rfl).elim
    | inr j => exact two ha hb hv q i1 i2 g
  | inr i =>
    cases b with
    | inl y => exact two ha hb hv q i1 i2 g
    | inr j => exact ⟨_, g, ab_fact_ok hs (by decide) ha hb hh, rfl⟩
theorem ab_br2_ok {ρ : Nat → Int} {G : ab_G} (hs : ab_Sat ρ G) {c : Nat} {a b : ab_S} (hc : c ≤ 5) (ha : ab_oS G.1 a) (hb : ab_oS G.1 b) (hv : ∀ x y, a = .inl x → b = .inl y → False) {f : Bool → ab_G → Bool}
    (h : ab_br2 c a b G f = true) : ab_Z G ρ (f (ab_hold c (ab_sv ρ a) (ab_sv ρ b))) := by
  unfold ab_br2 at h
  rcases ab_if h with ⟨e, g⟩ | ⟨-, g⟩
  · have e := ab_seq_iff e
    have e2 : ab_hold c (ab_sv ρ a) (ab_sv ρ b) = ab_hold c 0 0 := by
      rw [e]
      refine ab_c5 (P := fun c => ab_hold c (ab_sv ρ b) (ab_sv ρ b) = ab_hold c 0 0) ?_ ?_ ?_ ?_ ?_ ?_ hc
      · exact ((ab_h0 _ _).mpr rfl).trans ((ab_h0 _ _).mpr rfl).symm
      · exact (ab_bool (fun q => (ab_h1 _ _).mp q rfl)).trans (ab_bool (fun q => (ab_h1 _ _).mp q rfl)).symm
      · exact (ab_bool (fun q => Int.lt_irrefl _ ((ab_h2 _ _).mp q))).trans (ab_bool (fun q => Int.lt_irrefl _ ((ab_h2 _ _).mp q))).symm
      · exact ((ab_h3 _ _).mpr (Int.le_refl _)).trans ((ab_h3 _ _).mpr (Int.le_refl _)).symm
      · exact (ab_bool (fun q => Int.lt_irrefl _ ((ab_h4 _ _).mp q))).trans (ab_bool (fun q => Int.lt_irrefl _ ((ab_h4 _ _).mp q))).symm
      · exact ((ab_h5 _ _).mpr (Int.le_refl _)).trans ((ab_h5 _ _).mpr (Int.le_refl _)).symm
    rw [e2]
    exact ⟨G, g, hs, rfl⟩
  split at g
  · rename_i t ht
    have := ab_known_ok (ρ := ρ) hc (fun f hf => (hs.2.2.1 f hf).2.2) ht
    rw [this]
    exact ⟨G, g, hs, rfl⟩
  · obtain ⟨g1, g2⟩ := ab_an g
    cases hh : ab_hold c (ab_sv ρ a) (ab_sv ρ b)
    · obtain ⟨n1, n2⟩ := ab_hng hc (ab_sv ρ a) (ab_sv ρ b)
      exact ab_side_ok hs n1 ha hb hv (n2.mpr (by rw [hh]; decide)) g2
    · exact ab_side_ok hs hc ha hb hv hh g1
theorem ab_br_ok {ρ : Nat → Int} {G : ab_G} (hs : ab_Sat ρ G) {c : Nat} {a b : ab_S} (hc : c ≤ 5) (ha : ab_oS G.1 a) (hb : ab_oS G.1 b) {f : Bool → ab_G → Bool}
    (h : ab_br c a b G f = true) : ab_Z G ρ (f (ab_hold c (ab_sv ρ a) (ab_sv ρ b))) := by
  obtain ⟨a1, a2⟩ := ab_nm_ok hs ha
  obtain ⟨b1, b2⟩ := ab_nm_ok hs hb
  unfold ab_br at h
  rw [← a2, ← b2]
  generalize ab_nm G a = a' at *
  generalize ab_nm G b = b' at *
  cases a' with
  | inl x =>
    cases b' with
    | inl y => exact ⟨G, h, hs, rfl⟩
    | inr j => exact ab_br2_ok hs hc (a := .inl x) (b := .inr j) trivial b1 (fun _ _ _ q => (by cases q)) h
  | inr i =>
    cases b' with
    | inl y => exact ab_br2_ok hs hc (a := .inr i) (b := .inl y) a1 trivial (fun _ _ q _ => (by cases q)) h
    | inr j => exact ab_br2_ok hs hc (a := .inr i) (b := .inr j) a1 b1 (fun _ _ q _ => (by cases q)) h
/-- all values one by one -/
theorem ab_spl_ok {f : Int → Bool} {lo : Int} : ∀ {n : Nat}, ab_spl f lo n = true → ∀ z, lo ≤ z → z < lo + n → f z = true
  | 0, _, z, h1, h2 => by omega
  | n + 1, h, z, h1, h2 => by
    have h3 : (bif f (lo + .ofNat n) then ab_spl f lo n else false) = true := h
    obtain ⟨h4, h5⟩ := ab_an h3
    by_cases e : z = lo + n
    · rw [e]; exact h4
    · exact ab_spl_ok h5 z h1 (by omega)
