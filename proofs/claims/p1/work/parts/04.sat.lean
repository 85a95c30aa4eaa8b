/-! WHAT A STATE OF THE WALKER SAYS of numbers, and that its arithmetic keeps it. -/
theorem ab_seq_iff {a b : ab_S} (h : ab_seq a b = true) : a = b := by
  cases a <;> cases b
  · rw [(ab_eq_iff _ _).mp h]
  · cases h
  · cases h
  · rw [ab_beq h]
theorem ab_lk_nil {α : Type} (i : Nat) : ab_lk ([] : List (Nat × α)) i = none := rfl
theorem ab_lk_cons {α : Type} (j : Nat) (v : α) (l : List (Nat × α)) (i : Nat) : ab_lk ((j, v) :: l) i = bif Nat.beq j i then some v else ab_lk l i := rfl
theorem ab_lk_self {α : Type} (j : Nat) (v : α) (l : List (Nat × α)) : ab_lk ((j, v) :: l) j = some v := by
  rw [ab_lk_cons, Nat.beq_refl]; rfl
theorem ab_lk_ne {α : Type} {j i : Nat} (v : α) (l : List (Nat × α)) (h : j ≠ i) : ab_lk ((j, v) :: l) i = ab_lk l i := by
  rw [ab_lk_cons]
  cases hb : Nat.beq j i
  · rfl
  · exact absurd (ab_beq hb) h
theorem ab_all_mem {α : Type} {f : α → Bool} : ∀ {l : List α}, ab_all f l = true → ∀ a ∈ l, f a = true
  | [], _, a, h => absurd h List.not_mem_nil
  | b :: l, h, a, hm => by
    have h2 : (bif f b then ab_all f l else false) = true := h
    obtain ⟨h3, h4⟩ := ab_an h2
    rcases List.mem_cons.mp hm with rfl | hm
    · exact h3
    · exact ab_all_mem h4 a hm
def ab_sv (ρ : Nat → Int) : ab_S → Int
  | .inl c => c
  | .inr i => ρ i
def ab_oS (n : Nat) : ab_S → Prop
  | .inl _ => True
  | .inr i => i < n
def ab_dz (op : Nat) (x y : Int) : Int := bif Nat.beq op 0 then x + y else bif Nat.beq op 1 then x - y else bif Nat.beq op 2 then x * y else bif Nat.beq op 3 then x.tdiv y else x.tmod y
def ab_Sat (ρ : Nat → Int) (G : ab_G) : Prop :=
  (∀ (i : Nat) (p : Int × Int), ab_lk G.2.1 i = some p → i < G.1 ∧ p.1 ≤ ρ i ∧ ρ i ≤ p.2) ∧ (∀ i, i < G.1 → ∃ p, ab_lk G.2.1 i = some p) ∧
  (∀ f ∈ G.2.2.1, ab_oS G.1 f.2.1 ∧ ab_oS G.1 f.2.2 ∧ f.1 ≤ 5 ∧ ab_hold f.1 (ab_sv ρ f.2.1) (ab_sv ρ f.2.2) = true) ∧
  (∀ d ∈ G.2.2.2, ab_oS G.1 d.2.1 ∧ ab_oS G.1 d.2.2.1 ∧ d.2.2.2 < G.1 ∧ ρ d.2.2.2 = ab_dz d.1 (ab_sv ρ d.2.1) (ab_sv ρ d.2.2.1))
def ab_Ext (n : Nat) (ρ : Nat → Int) (n' : Nat) (ρ' : Nat → Int) : Prop := n ≤ n' ∧ ∀ i, i < n → ρ' i = ρ i
theorem ab_Ext.rf (n : Nat) (ρ : Nat → Int) : ab_Ext n ρ n ρ := ⟨Nat.le_refl _, fun _ _ => rfl⟩
theorem ab_Ext.tr {n n1 n2 : Nat} {ρ ρ1 ρ2 : Nat → Int} (h : ab_Ext n ρ n1 ρ1) (h2 : ab_Ext n1 ρ1 n2 ρ2) : ab_Ext n ρ n2 ρ2 :=
  ⟨Nat.le_trans h.1 h2.1, fun i hi => (h2.2 i (Nat.lt_of_lt_of_le hi h.1)).trans (h.2 i hi)⟩
theorem ab_Ext.sv {n n' : Nat} {ρ ρ' : Nat → Int} (h : ab_Ext n ρ n' ρ') {s : ab_S} (hs : ab_oS n s) : ab_sv ρ' s = ab_sv ρ s := by
  cases s with
  | inl c => rfl
  | inr i => exact h.2 i hs
theorem ab_Ext.oS {n n' : Nat} {ρ ρ' : Nat → Int} (h : ab_Ext n ρ n' ρ') {s : ab_S} (hs : ab_oS n s) : ab_oS n' s := by
  cases s with
  | inl c => trivial
  | inr i => exact Nat.lt_of_lt_of_le hs h.1
def ab_Y (G : ab_G) (ρ : Nat → Int) (f : ab_S → ab_G → Bool) (z : Int) : Prop := ∃ s G' ρ', f s G' = true ∧ ab_Ext G.1 ρ G'.1 ρ' ∧ ab_Sat ρ' G' ∧ ab_oS G'.1 s ∧ ab_sv ρ' s = z
theorem ab_iv_ok {ρ : Nat → Int} {G : ab_G} (hs : ab_Sat ρ G) {s : ab_S} (ho : ab_oS G.1 s) : (ab_ivS G s).1 ≤ ab_sv ρ s ∧ ab_sv ρ s ≤ (ab_ivS G s).2 := by
  cases s with
  | inl c => exact ⟨Int.le_refl _, Int.le_refl _⟩
  | inr i =>
    obtain ⟨p, hp⟩ := hs.2.1 i ho
    have h := hs.1 i p hp
    show (ab_ivI G i).1 ≤ ρ i ∧ ρ i ≤ (ab_ivI G i).2
    unfold ab_ivI
    rw [hp]
    exact h.2
theorem ab_nm_ok {ρ : Nat → Int} {G : ab_G} (hs : ab_Sat ρ G) {s : ab_S} (ho : ab_oS G.1 s) : ab_oS G.1 (ab_nm G s) ∧ ab_sv ρ (ab_nm G s) = ab_sv ρ s := by
  cases s with
  | inl c => exact ⟨trivial, rfl⟩
  | inr i =>
    have h := ab_iv_ok hs ho
    show ab_oS G.1 (match ab_ivI G i with | (p, q) => bif ab_eq p q then .inl p else .inr i) ∧ ab_sv ρ (match ab_ivI G i with | (p, q) => bif ab_eq p q then .inl p else .inr i) = ρ i
    have h2 : (ab_ivI G i).1 ≤ ρ i ∧ ρ i ≤ (ab_ivI G i).2 := h
    cases hb : ab_eq (ab_ivI G i).1 (ab_ivI G i).2
    · dsimp only
      rw [hb]
      exact ⟨ho, rfl⟩
    · dsimp only
      rw [hb]
      have e := (ab_eq_iff _ _).mp hb
      refine ⟨trivial, ?_⟩
      show (ab_ivI G i).1 = ρ i
      omega
/-- a new variable -/
theorem ab_push {ρ : Nat → Int} {G : ab_G} (hs : ab_Sat ρ G) {p q z : Int} (hz : p ≤ z ∧ z ≤ q) :
    ∃ ρ' : Nat → Int, ab_Ext G.1 ρ (G.1 + 1) ρ' ∧ ρ' G.1 = z ∧ ab_Sat ρ' (G.1 + 1, (G.1, (p, q)) :: G.2.1, G.2.2) := by
  have hE : ab_Ext G.1 ρ (G.1 + 1) (fun i => if i = G.1 then z else ρ i) := ⟨Nat.le_succ _, fun i hi => if_neg (Nat.ne_of_lt hi)⟩
  refine ⟨fun i => if i = G.1 then z else ρ i, hE, if_pos rfl, ?_, ?_, ?_, ?_⟩
  · intro i r hr
    by_cases hi : i = G.1
    · subst hi
      rw [ab_lk_self] at hr
      cases hr
      exact ⟨Nat.lt_succ_self _, by dsimp only; rw [if_pos rfl]; exact hz⟩
    · rw [ab_lk_ne _ _ (fun e => hi e.symm)] at hr
      have h := hs.1 i r hr
      exact ⟨Nat.lt_succ_of_lt h.1, by dsimp only; rw [if_neg hi]; exact h.2⟩
  · intro i hi
    by_cases he : i = G.1
    · subst he
      exact ⟨_, ab_lk_self _ _ _⟩
    · obtain ⟨r, hr⟩ := hs.2.1 i (by have : i < G.1 + 1 := hi; omega)
      exact ⟨r, by rw [ab_lk_ne _ _ (fun e => he e.symm)]; exact hr⟩
  · intro f hf
    obtain ⟨h1, h2, h3⟩ := hs.2.2.1 f hf
    refine ⟨hE.oS h1, hE.oS h2, h3.1, ?_⟩
    rw [hE.sv h1, hE.sv h2]
    exact h3.2
  · intro d hd
    obtain ⟨h1, h2, h3, h4⟩ := hs.2.2.2 d hd
    refine ⟨hE.oS h1, hE.oS h2, Nat.lt_succ_of_lt h3, ?_⟩
    rw [hE.sv h1, hE.sv h2, hE.2 _ h3]
    exact h4
theorem ab_fr_ok {ρ : Nat → Int} {G : ab_G} (hs : ab_Sat ρ G) {p q z : Int} (hz : p ≤ z ∧ z ≤ q) {f : ab_S → ab_G → Bool} (h : ab_fr G p q f = true) : ab_Y G ρ f z := by
  unfold ab_fr at h
  rcases ab_if h with ⟨e, h⟩ | ⟨-, h⟩
  · have e := (ab_eq_iff _ _).mp e
    exact ⟨_, G, ρ, h, ab_Ext.rf _ _, hs, trivial, by show p = z; omega⟩
  · obtain ⟨ρ', h1, h2, h3⟩ := ab_push hs hz
    exact ⟨_, _, ρ', h, h1, h3, Nat.lt_succ_self _, h2⟩
theorem ab_find_ok {op : Nat} {a b : ab_S} {r : Nat} : ∀ {l : List ab_D}, ab_find op a b l = some r → (op, a, b, r) ∈ l
  | [], h => by cases h
  | d :: l, h => by
    have h2 : (bif (bif Nat.beq d.1 op then (bif ab_seq d.2.1 a then ab_seq d.2.2.1 b else false) else false) then some d.2.2.2 else ab_find op a b l) = some r := h
    cases hc : (bif Nat.beq d.1 op then (bif ab_seq d.2.1 a then ab_seq d.2.2.1 b else false) else false)
    · rw [hc] at h2
      exact List.mem_cons_of_mem _ (ab_find_ok h2)
    · rw [hc] at h2
      obtain ⟨h3, h4⟩ := ab_an hc
      obtain ⟨h4, h5⟩ := ab_an h4
      obtain ⟨o, x, y, r'⟩ := d
      have e1 : o = op := ab_beq h3
      have e2 : x = a := ab_seq_iff h4
      have e3 : y = b := ab_seq_iff h5
      have e4 : r' = r := Option.some.inj h2
      subst e1; subst e2; subst e3; subst e4
      exact List.mem_cons_self
theorem ab_fd_ok {ρ : Nat → Int} {G : ab_G} (hs : ab_Sat ρ G) {op : Nat} {a b : ab_S} {p q z : Int} (ha : ab_oS G.1 a) (hb : ab_oS G.1 b) (he : z = ab_dz op (ab_sv ρ a) (ab_sv ρ b)) (hz : p ≤ z ∧ z ≤ q) {f : ab_S → ab_G → Bool}
    (h : ab_fd G op a b p q f = true) : ab_Y G ρ f z := by
  unfold ab_fd at h
  split at h
  · rename_i r hr
    obtain ⟨-, -, h3, h4⟩ := hs.2.2.2 _ (ab_find_ok hr)
    obtain ⟨h5, h6⟩ := ab_nm_ok hs (s := .inr r) h3
    exact ⟨_, G, ρ, h, ab_Ext.rf _ _, hs, h5, h6.trans (h4.trans he.symm)⟩
  · rcases ab_if h with ⟨e, h⟩ | ⟨-, h⟩
    · have e := (ab_eq_iff _ _).mp e
      exact ⟨_, G, ρ, h, ab_Ext.rf _ _, hs, trivial, by show p = z; omega⟩
    · obtain ⟨ρ', h1, h2, h3⟩ := ab_push hs hz
      refine ⟨_, _, ρ', h, h1, ⟨h3.1, h3.2.1, h3.2.2.1, ?_⟩, Nat.lt_succ_self _, h2⟩
      intro d hd
      rcases List.mem_cons.mp hd with rfl | hd
      · refine ⟨h1.oS ha, h1.oS hb, Nat.lt_succ_self _, ?_⟩
        show ρ' G.1 = _
        rw [h2, h1.sv ha, h1.sv hb]
        exact he
      · exact h3.2.2.2 d hd
theorem ab_full_ok {ρ : Nat → Int} {G : ab_G} (hs : ab_Sat ρ G) {k : Nat} {z : Int} (hz : ab_R k z) {f : ab_S → ab_G → Bool} (h : ab_full k G f = true) : ab_Y G ρ f z := ab_fr_ok hs hz h
theorem ab_mk_ok {ρ : Nat → Int} {G : ab_G} (hs : ab_Sat ρ G) {k op : Nat} {a b : ab_S} {p q z : Int} (ha : ab_oS G.1 a) (hb : ab_oS G.1 b) (hp : p ≤ ab_dz op (ab_sv ρ a) (ab_sv ρ b) ∧ ab_dz op (ab_sv ρ a) (ab_sv ρ b) ≤ q) (hR : ab_R k z)
    (he : ab_R k (ab_dz op (ab_sv ρ a) (ab_sv ρ b)) → z = ab_dz op (ab_sv ρ a) (ab_sv ρ b)) {f : ab_S → ab_G → Bool} (h : ab_mk k G op a b p q f = true) : ab_Y G ρ f z := by
  unfold ab_mk at h
  rcases ab_if h with ⟨e, h⟩ | ⟨-, h⟩
  · obtain ⟨h1, h2⟩ := ab_inR_iff _ _ _ e
    have hz := he ⟨Int.le_trans h1 hp.1, Int.le_trans hp.2 h2⟩
    exact ab_fd_ok hs ha hb hz (by rw [hz]; exact hp) h
  · exact ab_full_ok hs hR h
theorem ab_nw_ok {ρ : Nat → Int} {G : ab_G} (hs : ab_Sat ρ G) {k : Nat} {p q z : Int} (hp : p ≤ z ∧ z ≤ q) (hR : ab_R k z) {f : ab_S → ab_G → Bool} (h : ab_nw k G p q f = true) : ab_Y G ρ f z := by
  unfold ab_nw at h
  rcases ab_if h with ⟨-, h⟩ | ⟨-, h⟩
  · exact ab_fr_ok hs hp h
  · exact ab_full_ok hs hR h
theorem ab_Y.old {ρ : Nat → Int} {G : ab_G} (hs : ab_Sat ρ G) {s : ab_S} (ho : ab_oS G.1 s) {z : Int} (hz : ab_sv ρ s = z) {f : ab_S → ab_G → Bool} (h : f s G = true) : ab_Y G ρ f z := ⟨s, G, ρ, h, ab_Ext.rf _ _, hs, ho, hz⟩
section Ar
theorem ab_R_zero (k : Nat) : ab_R k 0 := by
  cases hk : Nat.beq k 0
  · exact ⟨by rw [ab_loS hk]; omega, by rw [ab_hiS hk]; omega⟩
  · cases ab_k0 hk; exact ⟨by rw [ab_lo0]; omega, by rw [ab_hi0]; omega⟩
variable {ρ : Nat → Int} {G : ab_G} {k : Nat} {a b : ab_S} {f : ab_S → ab_G → Bool}
theorem ab_add_ok (hs : ab_Sat ρ G) (ha : ab_oS G.1 a) (hb : ab_oS G.1 b) (hx : ab_R k (ab_sv ρ a)) (hy : ab_R k (ab_sv ρ b)) (h : ab_add k G a b f = true) : ab_Y G ρ f (ab_opZ k 0 (ab_sv ρ a) (ab_sv ρ b)) := by
  have e := ab_z_add hx hy
  have i1 := ab_iv_ok hs ha
  have i2 := ab_iv_ok hs hb
  unfold ab_add at h
  rcases ab_if h with ⟨c, h⟩ | ⟨-, h⟩
  · have e0 : ab_sv ρ b = 0 := by rw [ab_seq_iff c]; rfl
    refine ab_Y.old hs ha ?_ h
    rw [e, e0, Int.add_zero, ab_wr_id hx]
  rcases ab_if h with ⟨c, h⟩ | ⟨-, h⟩
  · have e0 : ab_sv ρ a = 0 := by rw [ab_seq_iff c]; rfl
    refine ab_Y.old hs hb ?_ h
    rw [e, e0, Int.zero_add, ab_wr_id hy]
  · refine ab_mk_ok hs ha hb ?_ (ab_opR _ _ _ _) (fun hR => ?_) h
    · show _ ≤ ab_sv ρ a + ab_sv ρ b ∧ ab_sv ρ a + ab_sv ρ b ≤ _
      omega
    · rw [e]; exact ab_wr_id hR
theorem ab_sub_ok (hs : ab_Sat ρ G) (ha : ab_oS G.1 a) (hb : ab_oS G.1 b) (hx : ab_R k (ab_sv ρ a)) (hy : ab_R k (ab_sv ρ b)) (h : ab_sub k G a b f = true) : ab_Y G ρ f (ab_opZ k 1 (ab_sv ρ a) (ab_sv ρ b)) := by
  have e := ab_z_sub hx hy
  have i1 := ab_iv_ok hs ha
  have i2 := ab_iv_ok hs hb
  unfold ab_sub at h
  rcases ab_if h with ⟨c, h⟩ | ⟨-, h⟩
  · have e0 : ab_sv ρ b = 0 := by rw [ab_seq_iff c]; rfl
    refine ab_Y.old hs ha ?_ h
    rw [e, e0, Int.sub_zero, ab_wr_id hx]
  rcases ab_if h with ⟨c, h⟩ | ⟨-, h⟩
  · have e0 : ab_sv ρ b = ab_sv ρ a := by rw [ab_seq_iff c]
    refine ab_Y.old hs (s := .inl 0) trivial ?_ h
    rw [e, e0, Int.sub_self]
    exact (ab_wr_id (ab_R_zero k)).symm
  cases b with
  | inl c =>
    refine ab_mk_ok hs ha (b := .inl (-c)) trivial ?_ (ab_opR _ _ _ _) (fun hR => ?_) h
    · show _ ≤ ab_sv ρ a + -c ∧ ab_sv ρ a + -c ≤ _
      omega
    · rw [e]
      show ab_wr k (ab_sv ρ a - c) = ab_sv ρ a + -c
      have hR' : ab_R k (ab_sv ρ a + -c) := hR
      rw [Int.sub_eq_add_neg]
      exact ab_wr_id hR'
  | inr i =>
    refine ab_mk_ok hs ha (b := .inr i) hb ?_ (ab_opR _ _ _ _) (fun hR => ?_) h
    · show _ ≤ ab_sv ρ a - ρ i ∧ ab_sv ρ a - ρ i ≤ _
      have i3 : (ab_ivI G i).1 ≤ ρ i ∧ ρ i ≤ (ab_ivI G i).2 := i2
      omega
    · rw [e]; exact ab_wr_id hR
theorem ab_mul_iv {x y a1 a2 b1 b2 : Int} (h1 : 0 ≤ a1) (h2 : a1 ≤ x) (h3 : x ≤ a2) (h4 : 0 ≤ b1) (h5 : b1 ≤ y) (h6 : y ≤ b2) : a1 * b1 ≤ x * y ∧ x * y ≤ a2 * b2 :=
  ⟨Int.mul_le_mul h2 h5 h4 (Int.le_trans h1 h2), Int.mul_le_mul h3 h6 (Int.le_trans h4 h5) (Int.le_trans h1 (Int.le_trans h2 h3))⟩
theorem ab_mulc_ok {i : Nat} {c z : Int} (hs : ab_Sat ρ G) (hi : i < G.1) (hx : ab_R k (ρ i)) (hR : ab_R k z) (he : z = ab_wr k (ρ i * c)) (h : ab_mulc k G i c f = true) : ab_Y G ρ f z := by
  have i1 : (ab_ivI G i).1 ≤ ρ i ∧ ρ i ≤ (ab_ivI G i).2 := ab_iv_ok hs (s := .inr i) hi
  unfold ab_mulc at h
  rcases ab_if h with ⟨q, h⟩ | ⟨-, h⟩
  · have e1 := (ab_eq_iff _ _).mp q
    refine ab_Y.old hs (s := .inr i) hi ?_ h
    rw [he, e1, Int.mul_one, ab_wr_id hx]; rfl
  rcases ab_if h with ⟨q, h⟩ | ⟨-, h⟩
  · have e1 := (ab_eq_iff _ _).mp q
    refine ab_Y.old hs (s := .inl 0) trivial ?_ h
    rw [he, e1, Int.mul_zero, ab_wr_id (ab_R_zero k)]; rfl
  rcases ab_if h with ⟨q, h⟩ | ⟨q, h⟩
  · have hc := (ab_le_iff _ _).mp q
    refine ab_mk_ok hs (a := .inr i) (b := .inl c) hi trivial ?_ hR (fun hq => ?_) h
    · exact ⟨Int.mul_le_mul_of_nonneg_right i1.1 hc, Int.mul_le_mul_of_nonneg_right i1.2 hc⟩
    · rw [he]; exact ab_wr_id hq
  · have hc := ab_nle q
    refine ab_mk_ok hs (a := .inr i) (b := .inl c) hi trivial ?_ hR (fun hq => ?_) h
    · exact ⟨Int.mul_le_mul_of_nonpos_right i1.2 (Int.le_of_lt hc), Int.mul_le_mul_of_nonpos_right i1.1 (Int.le_of_lt hc)⟩
    · rw [he]; exact ab_wr_id hq
theorem ab_mul_ok (hs : ab_Sat ρ G) (ha : ab_oS G.1 a) (hb : ab_oS G.1 b) (hx : ab_R k (ab_sv ρ a)) (hy : ab_R k (ab_sv ρ b)) (h : ab_mul k G a b f = true) : ab_Y G ρ f (ab_opZ k 2 (ab_sv ρ a) (ab_sv ρ b)) := by
  have e := ab_z_mul hx hy
  cases a with
  | inl c =>
    cases b with
    | inl d => cases h
    | inr i => exact ab_mulc_ok hs hb hy (ab_opR _ _ _ _) (by rw [e, Int.mul_comm]; rfl) h
  | inr i =>
    cases b with
    | inl d => exact ab_mulc_ok hs ha hx (ab_opR _ _ _ _) e h
    | inr j =>
      rcases ab_if h with ⟨q, h⟩ | ⟨-, h⟩
      · obtain ⟨q1, q2⟩ := ab_an q
        have q1 := (ab_le_iff _ _).mp q1
        have q2 := (ab_le_iff _ _).mp q2
        have i1 : (ab_ivI G i).1 ≤ ρ i ∧ ρ i ≤ (ab_ivI G i).2 := ab_iv_ok hs (s := .inr i) ha
        have i2 : (ab_ivI G j).1 ≤ ρ j ∧ ρ j ≤ (ab_ivI G j).2 := ab_iv_ok hs (s := .inr j) hb
        refine ab_mk_ok hs (a := .inr i) (b := .inr j) ha hb ?_ (ab_opR _ _ _ _) (fun hq => ?_) h
        · exact ab_mul_iv q1 i1.1 i1.2 q2 i2.1 i2.2
        · rw [e]; exact ab_wr_id hq
      · exact ab_full_ok hs (ab_opR _ _ _ _) h
theorem ab_div_ok (hs : ab_Sat ρ G) (ha : ab_oS G.1 a) (hb : ab_oS G.1 b) (hx : ab_R k (ab_sv ρ a)) (hy : ab_R k (ab_sv ρ b)) (h : ab_div k G a b f = true) : ab_sv ρ b ≠ 0 ∧ ab_Y G ρ f (ab_opZ k 3 (ab_sv ρ a) (ab_sv ρ b)) := by
  have e := ab_z_div hx hy
  have i1 := ab_iv_ok hs ha
  have i2 := ab_iv_ok hs hb
  unfold ab_div at h
  obtain ⟨q, h⟩ := ab_an h
  have q := (ab_le_iff _ _).mp q
  refine ⟨by omega, ?_⟩
  cases b with
  | inl c =>
    have q : 1 ≤ c := q
    rcases ab_if h with ⟨q1, h⟩ | ⟨-, h⟩
    · have q1 := (ab_eq_iff _ _).mp q1
      refine ab_Y.old hs ha ?_ h
      rw [e]
      show ab_sv ρ a = ab_wr k ((ab_sv ρ a).tdiv c)
      rw [q1, Int.tdiv_one, ab_wr_id hx]
    · refine ab_mk_ok hs ha (b := .inl c) trivial ?_ (ab_opR _ _ _ _) (fun hq => ?_) h
      · exact ⟨ab_td_mono q i1.1, ab_td_mono q i1.2⟩
      · rw [e]; exact ab_wr_id hq
  | inr i =>
    have i3 : (ab_ivI G i).1 ≤ ρ i ∧ ρ i ≤ (ab_ivI G i).2 := i2
    have q : 1 ≤ (ab_ivI G i).1 := q
    refine ab_mk_ok hs ha (b := .inr i) hb ?_ (ab_opR _ _ _ _) (fun hq => ?_) h
    · have := ab_td_pos (a := ab_sv ρ a) (c := ρ i) (by omega)
      rw [ab_min_eq, ab_max_eq]
      show _ ≤ (ab_sv ρ a).tdiv (ρ i) ∧ (ab_sv ρ a).tdiv (ρ i) ≤ _
      omega
    · rw [e]; exact ab_wr_id hq
theorem ab_ltd_ok {a : ab_S} {j : Nat} : ∀ {l : List ab_D}, ab_ltd l a j = true → ∃ d ∈ l, d.1 = 4 ∧ d.2.2.1 = a ∧ d.2.2.2 = j
  | [], h => by cases h
  | d :: l, h => by
    have h' : (bif (bif Nat.beq d.1 4 then (bif ab_seq d.2.2.1 a then Nat.beq d.2.2.2 j else false) else false) then true else ab_ltd l a j) = true := h
    rcases ab_if h' with ⟨q, -⟩ | ⟨-, q⟩
    · obtain ⟨q1, q2⟩ := ab_an q
      obtain ⟨q3, q4⟩ := ab_an q2
      exact ⟨d, List.mem_cons_self, ab_beq q1, ab_seq_iff q3, ab_beq q4⟩
    · obtain ⟨d2, h1, h2⟩ := ab_ltd_ok q
      exact ⟨d2, List.mem_cons_of_mem _ h1, h2⟩
theorem ab_half {x z : Int} (hx : 0 ≤ x) (h1 : 1 ≤ z.tmod x) : x.tmod (z.tmod x) ≤ x / 2 := by
  by_cases h0 : x = 0
  · subst h0
    rw [Int.zero_tmod]
    decide
  · have hm := ab_tm_pos (a := z) (b := x) (by omega)
    generalize z.tmod x = y at h1 hm
    rw [Int.tmod_eq_emod_of_nonneg hx]
    have hq : 1 ≤ x / y := (Int.le_ediv_iff_mul_le (by omega)).mpr (by omega)
    have hml : y * 1 ≤ y * (x / y) := Int.mul_le_mul_of_nonneg_left hq (by omega)
    have he := Int.mul_ediv_add_emod x y
    have hlt := Int.emod_lt_of_pos x (show 0 < y by omega)
    generalize y * (x / y) = w at hml he
    omega
theorem ab_rhi_ok (hs : ab_Sat ρ G) (ha : ab_oS G.1 a) (hb : ab_oS G.1 b) (q : 1 ≤ ab_sv ρ b) (q1 : 0 ≤ ab_sv ρ a) : (ab_sv ρ a).tmod (ab_sv ρ b) ≤ ab_rhi G a b := by
  have hm := ab_tm_pos (a := ab_sv ρ a) (b := ab_sv ρ b) q
  have i1 := ab_iv_ok hs ha
  have i2 := ab_iv_ok hs hb
  unfold ab_rhi
  cases b with
  | inl c =>
    have e : ab_sv ρ (.inl c) = c := rfl
    rw [e] at hm ⊢
    exact hm.2.1
  | inr j =>
    have i3 : ρ j ≤ (ab_ivI G j).2 := i2.2
    have e : ab_sv ρ (.inr j) = ρ j := rfl
    rw [e] at hm q ⊢
    show _ ≤ (bif ab_ltd G.2.2.2 a j then ab_min ((ab_ivI G j).2 - 1) ((ab_ivS G a).2 / 2) else (ab_ivI G j).2 - 1)
    cases hl : ab_ltd G.2.2.2 a j
    · show _ ≤ (ab_ivI G j).2 - 1
      omega
    · show _ ≤ ab_min ((ab_ivI G j).2 - 1) ((ab_ivS G a).2 / 2)
      obtain ⟨d, d1, d2, d3, d4⟩ := ab_ltd_ok hl
      obtain ⟨-, -, -, d5⟩ := hs.2.2.2 d d1
      rw [d2, d3, d4] at d5
      have d6 : ρ j = (ab_sv ρ d.2.1).tmod (ab_sv ρ a) := d5
      have hh := ab_half (x := ab_sv ρ a) (z := ab_sv ρ d.2.1) q1 (by rw [← d6]; exact q)
      rw [← d6] at hh
      rw [ab_min_eq]
      omega
theorem ab_rem_ok (hs : ab_Sat ρ G) (ha : ab_oS G.1 a) (hb : ab_oS G.1 b) (hx : ab_R k (ab_sv ρ a)) (hy : ab_R k (ab_sv ρ b)) (h : ab_rem k G a b f = true) : ab_sv ρ b ≠ 0 ∧ ab_Y G ρ f (ab_opZ k 4 (ab_sv ρ a) (ab_sv ρ b)) := by
  have e := ab_z_rem hx hy
  have i1 := ab_iv_ok hs ha
  have i2 := ab_iv_ok hs hb
  unfold ab_rem at h
  obtain ⟨q, h⟩ := ab_an h
  have q := (ab_le_iff _ _).mp q
  refine ⟨by omega, ?_⟩
  have hm := ab_tm_pos (a := ab_sv ρ a) (b := ab_sv ρ b) (by omega)
  rcases ab_if h with ⟨q1, h⟩ | ⟨-, h⟩
  · have q1 := (ab_le_iff _ _).mp q1
    refine ab_mk_ok hs ha hb ?_ (ab_opR _ _ _ _) (fun hq => e) h
    show _ ≤ (ab_sv ρ a).tmod (ab_sv ρ b) ∧ (ab_sv ρ a).tmod (ab_sv ρ b) ≤ _
    exact ⟨hm.2.2 (by omega), ab_rhi_ok hs ha hb (by omega) (by omega)⟩
  · refine ab_mk_ok hs ha hb ?_ (ab_opR _ _ _ _) (fun hq => e) h
    show _ ≤ (ab_sv ρ a).tmod (ab_sv ρ b) ∧ (ab_sv ρ a).tmod (ab_sv ρ b) ≤ _
    omega
theorem ab_and_ok (hs : ab_Sat ρ G) (ha : ab_oS G.1 a) (hb : ab_oS G.1 b) (hx : ab_R k (ab_sv ρ a)) (hy : ab_R k (ab_sv ρ b)) (h : ab_and k G a b f = true) : ab_Y G ρ f (ab_opZ k 5 (ab_sv ρ a) (ab_sv ρ b)) := by
  have e := ab_z_and hx hy
  have i1 := ab_iv_ok hs ha
  have i2 := ab_iv_ok hs hb
  unfold ab_and at h
  rcases ab_if h with ⟨q, h⟩ | ⟨-, h⟩
  · have q := (ab_le_iff _ _).mp q
    have := e.1 (by omega)
    exact ab_nw_ok hs ⟨by omega, by omega⟩ (ab_opR _ _ _ _) h
  rcases ab_if h with ⟨q, h⟩ | ⟨-, h⟩
  · have q := (ab_le_iff _ _).mp q
    have := e.2 (by omega)
    exact ab_nw_ok hs ⟨by omega, by omega⟩ (ab_opR _ _ _ _) h
  · exact ab_full_ok hs (ab_opR _ _ _ _) h
theorem ab_xor_ok (hs : ab_Sat ρ G) (ha : ab_oS G.1 a) (hb : ab_oS G.1 b) (hx : ab_R k (ab_sv ρ a)) (hy : ab_R k (ab_sv ρ b)) (h : ab_xor k G a b f = true) : ab_Y G ρ f (ab_opZ k 7 (ab_sv ρ a) (ab_sv ρ b)) := by
  have i1 := ab_iv_ok hs ha
  have i2 := ab_iv_ok hs hb
  unfold ab_xor at h
  rcases ab_if h with ⟨q, h⟩ | ⟨-, h⟩
  · obtain ⟨q1, q2⟩ := ab_an q
    have q1 := (ab_le_iff _ _).mp q1
    have q2 := (ab_le_iff _ _).mp q2
    have := ab_z_xor hx hy (by omega) (by omega)
    have hR := ab_opR k 7 (ab_sv ρ a) (ab_sv ρ b)
    exact ab_nw_ok hs ⟨this, hR.2⟩ hR h
  · exact ab_full_ok hs (ab_opR _ _ _ _) h
theorem ab_shr_ok (hs : ab_Sat ρ G) (ha : ab_oS G.1 a) (hx : ab_R k (ab_sv ρ a)) (y : Int) (h : ab_shr k G a f = true) : ab_Y G ρ f (ab_opZ k 9 (ab_sv ρ a) y) := by
  have i1 := ab_iv_ok hs ha
  unfold ab_shr at h
  rcases ab_if h with ⟨q, h⟩ | ⟨-, h⟩
  · have q := (ab_le_iff _ _).mp q
    have := ab_z_shr (y := y) hx (by omega)
    exact ab_nw_ok hs ⟨by omega, by omega⟩ (ab_opR _ _ _ _) h
  · exact ab_full_ok hs (ab_opR _ _ _ _) h
theorem ab_ar2_ok {op : Nat} (hs : ab_Sat ρ G) (ha : ab_oS G.1 a) (hb : ab_oS G.1 b) (hx : ab_R k (ab_sv ρ a)) (hy : ab_R k (ab_sv ρ b)) (h : ab_ar2 k op G a b f = true) : ((op = 3 ∨ op = 4) → ab_sv ρ b ≠ 0) ∧ ab_Y G ρ f (ab_opZ k op (ab_sv ρ a) (ab_sv ρ b)) := by
  unfold ab_ar2 at h
  rcases ab_if h with ⟨q, h⟩ | ⟨-, h⟩
  · cases ab_beq q
    exact ⟨fun c => by (rcases c with c | c) <;> exact absurd c (by decide), ab_add_ok hs ha hb hx hy h⟩
  rcases ab_if h with ⟨q, h⟩ | ⟨-, h⟩
  · cases ab_beq q
    exact ⟨fun c => by (rcases c with c | c) <;> exact absurd c (by decide), ab_sub_ok hs ha hb hx hy h⟩
  rcases ab_if h with ⟨q, h⟩ | ⟨-, h⟩
  · cases ab_beq q
    exact ⟨fun c => by (rcases c with c | c) <;> exact absurd c (by decide), ab_mul_ok hs ha hb hx hy h⟩
  rcases ab_if h with ⟨q, h⟩ | ⟨q3, h⟩
  · cases ab_beq q
    have := ab_div_ok hs ha hb hx hy h
    exact ⟨fun _ => this.1, this.2⟩
  rcases ab_if h with ⟨q, h⟩ | ⟨q4, h⟩
  · cases ab_beq q
    have := ab_rem_ok hs ha hb hx hy h
    exact ⟨fun _ => this.1, this.2⟩
  refine ⟨fun c => ?_, ?_⟩
  · rcases c with c | c
    · subst c; cases q3
    · subst c; cases q4
  rcases ab_if h with ⟨q, h⟩ | ⟨-, h⟩
  · cases ab_beq q
    exact ab_and_ok hs ha hb hx hy h
  rcases ab_if h with ⟨q, h⟩ | ⟨-, h⟩
  · cases ab_beq q
    exact ab_xor_ok hs ha hb hx hy h
  rcases ab_if h with ⟨q, h⟩ | ⟨-, h⟩
  · cases ab_beq q
    exact ab_shr_ok hs ha hx _ h
  · exact ab_full_ok hs (ab_opR _ _ _ _) h
theorem ab_ar_ok {op : Nat} (hs : ab_Sat ρ G) (ha : ab_oS G.1 a) (hb : ab_oS G.1 b) (hx : ab_R k (ab_sv ρ a)) (hy : ab_R k (ab_sv ρ b)) (h : ab_ar k op G a b f = true) : ((op = 3 ∨ op = 4) → ab_sv ρ b ≠ 0) ∧ ab_Y G ρ f (ab_opZ k op (ab_sv ρ a) (ab_sv ρ b)) := by
  obtain ⟨a1, a2⟩ := ab_nm_ok hs ha
  obtain ⟨b1, b2⟩ := ab_nm_ok hs hb
  unfold ab_ar at h
  rw [← a2, ← b2]
  rw [← a2] at hx
  rw [← b2] at hy
  generalize ab_nm G a = a' at *
  generalize ab_nm G b = b' at *
  cases a' with
  | inl x =>
    cases b' with
    | inl y =>
      rcases ab_if h with ⟨-, h⟩ | ⟨q, h⟩
      · cases h
      · refine ⟨fun c h0 => ?_, ab_Y.old hs (s := .inl _) trivial ?_ h⟩
        · have h0 : y = 0 := h0
          rw [h0, show ab_eq 0 0 = true from rfl] at q
          rcases c with c | c <;> (subst c; cases q)
        · exact ab_co_eq hx hy
    | inr j => exact ab_ar2_ok hs (a := .inl x) (b := .inr j) trivial b1 hx hy h
  | inr i =>
    cases b' with
    | inl y => exact ab_ar2_ok hs (a := .inr i) (b := .inl y) a1 trivial hx hy h
    | inr j => exact ab_ar2_ok hs (a := .inr i) (b := .inr j) a1 b1 hx hy h
end Ar
