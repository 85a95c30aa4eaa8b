/-! WHAT A STATE OF THE WALKER SAYS of the machine's values, locals, stack and heap. -/
/-- the script's row is cell 0, all others are new ones, one behind another -/
def ab_ad (b B : Nat) (c : Nat) : Nat := match c with
  | 0 => b
  | k + 1 => B + k
theorem ab_ad_inj {b B : Nat} (h : b < B) {c d : Nat} (e : ab_ad b B c = ab_ad b B d) : c = d := by
  cases c <;> cases d <;> simp only [ab_ad] at e <;> omega
def ab_RV (b B n : Nat) (ρ : Nat → Int) : ab_V → Value → Prop
  | .inl (.inl s), x => x = .int (Int32.ofInt (ab_sv ρ s)) ∧ ab_R 0 (ab_sv ρ s) ∧ ab_oS n s
  | .inl (.inr s), x => x = .long (Int64.ofInt (ab_sv ρ s)) ∧ ab_R 1 (ab_sv ρ s) ∧ ab_oS n s
  | .inr (.inl c), x => x = .ref (ab_ad b B c)
  | .inr (.inr t), x => (t = 0 ∧ x = .null) ∨ (t = 1 ∧ ∃ z : Int32, x = .double (FP.i2d z)) ∨ (t = 2 ∧ ∃ a, x = .ref a) ∨ (t = 3 ∧ x = .double 0x4020000000000000) ∨ (t = 4 ∧ ∃ d, x = .double d)
theorem ab_RV.ext {b B n n' : Nat} {ρ ρ' : Nat → Int} (hE : ab_Ext n ρ n' ρ') {v : ab_V} {x : Value} (h : ab_RV b B n ρ v x) : ab_RV b B n' ρ' v x := by
  match v, h with
  | .inl (.inl s), ⟨h1, h2, h3⟩ => exact ⟨by rw [hE.sv h3]; exact h1, by rw [hE.sv h3]; exact h2, hE.oS h3⟩
  | .inl (.inr s), ⟨h1, h2, h3⟩ => exact ⟨by rw [hE.sv h3]; exact h1, by rw [hE.sv h3]; exact h2, hE.oS h3⟩
  | .inr (.inl c), h => exact h
  | .inr (.inr t), h => exact h
theorem ab_RV.cat {b B n : Nat} {ρ : Nat → Int} {v : ab_V} {x : Value} (h : ab_RV b B n ρ v x) : x.category = bif ab_wide v then 2 else 1 := by
  match v, h with
  | .inl (.inl s), ⟨h1, _, _⟩ => rw [h1]; rfl
  | .inl (.inr s), ⟨h1, _, _⟩ => rw [h1]; rfl
  | .inr (.inl c), h => rw [show x = _ from h]; rfl
  | .inr (.inr t), h =>
    rcases h with ⟨rfl, rfl⟩ | ⟨rfl, z, rfl⟩ | ⟨rfl, a, rfl⟩ | ⟨rfl, rfl⟩ | ⟨rfl, d, rfl⟩ <;> rfl
/-- the same value under its simpler name -/
theorem ab_RV.nm {b B : Nat} {ρ : Nat → Int} {G : ab_G} (hs : ab_Sat ρ G) {v : ab_V} {x : Value} (h : ab_RV b B G.1 ρ v x) : ab_RV b B G.1 ρ (ab_nmV G v) x := by
  match v, h with
  | .inl (.inl s), ⟨h1, h2, h3⟩ =>
    obtain ⟨a1, a2⟩ := ab_nm_ok hs h3
    exact ⟨by rw [a2]; exact h1, by rw [a2]; exact h2, a1⟩
  | .inl (.inr s), ⟨h1, h2, h3⟩ =>
    obtain ⟨a1, a2⟩ := ab_nm_ok hs h3
    exact ⟨by rw [a2]; exact h1, by rw [a2]; exact h2, a1⟩
  | .inr (.inl c), h => exact h
  | .inr (.inr t), h => exact h
theorem ab_veq_iff {v w : ab_V} (h : ab_veq v w = true) : v = w := by
  match v, w, h with
  | .inl (.inl a), .inl (.inl c), h => rw [ab_seq_iff h]
  | .inl (.inr a), .inl (.inr c), h => rw [ab_seq_iff h]
  | .inr (.inl a), .inr (.inl c), h => rw [show a = c from ab_beq h]
  | .inr (.inr a), .inr (.inr c), h =>
    obtain ⟨h1, h2⟩ := ab_an h
    rw [show a = 0 from ab_beq h1, show c = 0 from ab_beq h2]
  | .inl (.inl _), .inl (.inr _), h => cases h
  | .inl (.inr _), .inl (.inl _), h => cases h
  | .inr (.inl _), .inr (.inr _), h => cases h
  | .inr (.inr _), .inr (.inl _), h => cases h
  | .inl (.inl _), .inr _, h => cases h
  | .inl (.inr _), .inr _, h => cases h
  | .inr (.inl _), .inl _, h => cases h
  | .inr (.inr _), .inl _, h => cases h
/-- the stack -/
def ab_RS (b B n : Nat) (ρ : Nat → Int) : List ab_V → List Value → Prop
  | [], [] => True
  | v :: S, x :: st => ab_RV b B n ρ v x ∧ ab_RS b B n ρ S st
  | _, _ => False
theorem ab_RS.nil {b B n : Nat} {ρ : Nat → Int} {st : List Value} (h : ab_RS b B n ρ [] st) : st = [] := by
  cases st with
  | nil => rfl
  | cons x t => exact h.elim
theorem ab_RS.cons {b B n : Nat} {ρ : Nat → Int} {v : ab_V} {S : List ab_V} {st : List Value} (h : ab_RS b B n ρ (v :: S) st) : ∃ x t, st = x :: t ∧ ab_RV b B n ρ v x ∧ ab_RS b B n ρ S t := by
  cases st with
  | nil => exact h.elim
  | cons x t => exact ⟨x, t, rfl, h.1, h.2⟩
theorem ab_RS.ext {b B n n' : Nat} {ρ ρ' : Nat → Int} (hE : ab_Ext n ρ n' ρ') : ∀ {S : List ab_V} {st : List Value}, ab_RS b B n ρ S st → ab_RS b B n' ρ' S st
  | [], [], _ => trivial
  | v :: S, x :: st, h => ⟨h.1.ext hE, ab_RS.ext hE h.2⟩
  | [], _ :: _, h => h.elim
  | _ :: _, [], h => h.elim
theorem ab_RS.app {b B n : Nat} {ρ : Nat → Int} : ∀ {S T : List ab_V} {s t : List Value}, ab_RS b B n ρ S s → ab_RS b B n ρ T t → ab_RS b B n ρ (S ++ T) (s ++ t)
  | [], T, [], t, _, h2 => h2
  | v :: S, T, x :: s, t, h, h2 => ⟨h.1, ab_RS.app h.2 h2⟩
  | [], _, _ :: _, _, h, _ => h.elim
  | _ :: _, _, [], _, h, _ => h.elim
theorem ab_RS.len {b B n : Nat} {ρ : Nat → Int} : ∀ {S : List ab_V} {st : List Value}, ab_RS b B n ρ S st → st.length = S.length
  | [], [], _ => rfl
  | v :: S, x :: st, h => congrArg (· + 1) (ab_RS.len h.2)
  | [], _ :: _, h => h.elim
  | _ :: _, [], h => h.elim
theorem ab_RS.words {b B n : Nat} {ρ : Nat → Int} : ∀ {S : List ab_V} {st : List Value}, ab_RS b B n ρ S st → (st.map fun v => v.category).sum ≤ 2 * S.length
  | [], [], _ => Nat.le_refl _
  | v :: S, x :: st, h => by
    have h1 := ab_RS.words h.2
    have h2 := h.1.cat
    have h3 : x.category ≤ 2 := by rw [h2]; cases ab_wide v <;> decide
    simp only [List.map_cons, List.sum_cons, List.length_cons]
    omega
  | [], _ :: _, h => h.elim
  | _ :: _, [], h => h.elim
/-- the locals, as the kit lists them -/
def ab_R2 (b B n : Nat) (ρ : Nat → Int) : ab_L → List (Nat × Value) → Prop
  | [], [] => True
  | q :: L, x :: l => q.1 = x.1 ∧ ab_RV b B n ρ q.2 x.2 ∧ ab_R2 b B n ρ L l
  | _, _ => False
theorem ab_R2.ext {b B n n' : Nat} {ρ ρ' : Nat → Int} (hE : ab_Ext n ρ n' ρ') : ∀ {S : ab_L} {st : List (Nat × Value)}, ab_R2 b B n ρ S st → ab_R2 b B n' ρ' S st
  | [], [], _ => trivial
  | v :: S, x :: st, h => ⟨h.1, h.2.1.ext hE, ab_R2.ext hE h.2.2⟩
  | [], _ :: _, h => h.elim
  | _ :: _, [], h => h.elim
theorem ab_R2.get {b B n : Nat} {ρ : Nat → Int} {i : Nat} {v : ab_V} : ∀ {L : ab_L} {l : List (Nat × Value)}, ab_R2 b B n ρ L l → ab_lk L i = some v → ∃ x, (i, x) ∈ l ∧ ab_RV b B n ρ v x
  | [], [], _, h => by cases h
  | q :: L, y :: l, h, hl => by
    obtain ⟨j, w⟩ := q
    obtain ⟨j2, y⟩ := y
    have e : j = j2 := h.1
    subst e
    rw [ab_lk_cons] at hl
    cases hb : Nat.beq j i
    · rw [hb] at hl
      obtain ⟨x, h1, h2⟩ := ab_R2.get h.2.2 hl
      exact ⟨x, List.mem_cons_of_mem _ h1, h2⟩
    · rw [hb] at hl
      cases hl
      rw [← show j = i from ab_beq hb]
      exact ⟨y, List.mem_cons_self, h.2.1⟩
  | [], _ :: _, h, _ => h.elim
  | _ :: _, [], h, _ => h.elim
noncomputable def ab_keep (i : Nat) (v : ab_V) (q : Nat × ab_V) : Bool := bif (bif Nat.beq q.1 i then true else bif (bif Nat.beq (q.1 + 1) i then ab_wide q.2 else false) then true else bif ab_wide v then Nat.beq q.1 (i + 1) else false) then false else true
theorem ab_sto_eq (i : Nat) (v : ab_V) (L : ab_L) : ab_sto i v L = (i, v) :: L.filter (ab_keep i v) := by
  unfold ab_sto
  congr 1
  induction L with
  | nil => rfl
  | cons q L ih =>
    rw [List.filter_cons]
    show (bif (bif Nat.beq q.1 i then true else bif (bif Nat.beq (q.1 + 1) i then ab_wide q.2 else false) then true else bif ab_wide v then Nat.beq q.1 (i + 1) else false) then _ else q :: _) = _
    rw [ih]
    unfold ab_keep
    cases (bif Nat.beq q.1 i then true else bif (bif Nat.beq (q.1 + 1) i then ab_wide q.2 else false) then true else bif ab_wide v then Nat.beq q.1 (i + 1) else false) <;> rfl
theorem ab_R2.filter {b B n : Nat} {ρ : Nat → Int} {p : Nat × ab_V → Bool} {p' : Nat × Value → Bool} (hp : ∀ i v x, ab_RV b B n ρ v x → p (i, v) = p' (i, x)) : ∀ {L : ab_L} {l : List (Nat × Value)}, ab_R2 b B n ρ L l → ab_R2 b B n ρ (L.filter p) (l.filter p')
  | [], [], _ => trivial
  | q :: L, y :: l, h => by
    obtain ⟨j, w⟩ := q
    obtain ⟨j2, y⟩ := y
    have e : j = j2 := h.1
    subst e
    have e2 := hp j w y h.2.1
    rw [List.filter_cons, List.filter_cons, ← e2]
    have ih := ab_R2.filter hp h.2.2
    cases p (j, w)
    · exact ih
    · exact ⟨rfl, h.2.1, ih⟩
  | [], _ :: _, h => h.elim
  | _ :: _, [], h => h.elim
theorem ab_beq_eq (a c : Nat) : Nat.beq a c = (a == c) := by
  cases h : Nat.beq a c
  · exact (beq_false_of_ne (Nat.ne_of_beq_eq_false h)).symm
  · rw [ab_beq h]
    exact (beq_self_eq_true c).symm
/-- a store of one slot -/
theorem ab_R2.sto1 {b B n : Nat} {ρ : Nat → Int} {L : ab_L} {l : List (Nat × Value)} (h : ab_R2 b B n ρ L l) {i : Nat} {v : ab_V} {x : Value} (hv : ab_RV b B n ρ v x) (hw : ab_wide v = false) :
    ab_R2 b B n ρ (ab_sto i v L) ((i, x) :: l.filter (fun q => !(q.1 == i) && !(q.1 + 1 == i && q.2.category == 2))) := by
  rw [ab_sto_eq]
  refine ⟨rfl, hv, ab_R2.filter (fun j w y hy => ?_) h⟩
  unfold ab_keep
  rw [hw, hy.cat]
  dsimp only
  rw [ab_beq_eq, ab_beq_eq]
  cases j == i <;> cases j + 1 == i <;> cases ab_wide w <;> rfl
/-- a store of two -/
theorem ab_R2.sto2 {b B n : Nat} {ρ : Nat → Int} {L : ab_L} {l : List (Nat × Value)} (h : ab_R2 b B n ρ L l) {i : Nat} {v : ab_V} {x : Value} (hv : ab_RV b B n ρ v x) (hw : ab_wide v = true) :
    ab_R2 b B n ρ (ab_sto i v L) ((i, x) :: l.filter (fun q => !(q.1 == i) && (!(q.1 == i + 1) && !(q.1 + 1 == i && q.2.category == 2)))) := by
  rw [ab_sto_eq]
  refine ⟨rfl, hv, ab_R2.filter (fun j w y hy => ?_) h⟩
  unfold ab_keep
  rw [hw, hy.cat]
  dsimp only
  rw [ab_beq_eq, ab_beq_eq, ab_beq_eq]
  cases j == i <;> cases j + 1 == i <;> cases ab_wide w <;> cases j == i + 1 <;> rfl
def ab_RL (b B n : Nat) (ρ : Nat → Int) (nL : Nat) (L : ab_L) (ls : Array Slot) : Prop := ∃ lv, lv_has ls nL lv ∧ ab_R2 b B n ρ L lv
theorem ab_RL.ext {b B n n' : Nat} {ρ ρ' : Nat → Int} (hE : ab_Ext n ρ n' ρ') {nL : Nat} {L : ab_L} {ls : Array Slot} (h : ab_RL b B n ρ nL L ls) : ab_RL b B n' ρ' nL L ls := by
  obtain ⟨lv, h1, h2⟩ := h
  exact ⟨lv, h1, h2.ext hE⟩
theorem ab_RL.get {b B n : Nat} {ρ : Nat → Int} {nL : Nat} {L : ab_L} {ls : Array Slot} (h : ab_RL b B n ρ nL L ls) {i : Nat} {v : ab_V} (hl : ab_lk L i = some v) : ∃ x, ls[i]? = some (.val x) ∧ ab_RV b B n ρ v x := by
  obtain ⟨lv, h1, h2⟩ := h
  obtain ⟨x, h3, h4⟩ := h2.get hl
  exact ⟨x, h1.2.2 _ h3, h4⟩
/-- rows of types 0 int 1 long 2 boolean, 3 and 4 rows of rows -/
theorem ab_lk_rm1 {α : Type} {i j : Nat} (e : i ≠ j) : ∀ l : List (Nat × α), ab_lk (ab_rm1 i l) j = ab_lk l j
  | [] => rfl
  | q :: l => by
    have ih := ab_lk_rm1 e l
    show ab_lk (bif Nat.beq q.1 i then l else q :: ab_rm1 i l) j = _
    obtain ⟨a, w⟩ := q
    cases hb : Nat.beq a i
    · show ab_lk ((a, w) :: ab_rm1 i l) j = _
      rw [ab_lk_cons, ab_lk_cons, ih]
    · have ea : a = i := ab_beq hb
      subst ea
      show ab_lk l j = _
      rw [ab_lk_ne _ _ e]
def ab_ty (ty : Nat) (x : Value) : Prop := match ty with
  | 0 => ∃ v, x = .int v
  | 1 => ∃ v, x = .long v
  | 2 => x = .int 0 ∨ x = .int 1
  | _ => True
noncomputable def ab_fv (FT : Nat → Nat → Nat) (ci : Nat) (fs : ab_L) (f : Nat) : ab_V := match ab_lk fs f with
  | some v => v
  | none => ab_def (FT ci f)
noncomputable def ab_el (d : ab_V) (l : ab_L) (j : Nat) : ab_V := match ab_lk l j with
  | some v => v
  | none => d
/-- what a row holds -/
def ab_rA (b B n : Nat) (ρ : Nat → Int) (ct : ab_A) (j : Nat) (x : Value) : Prop := match ct with
  | none => True
  | some (d, l) => ab_RV b B n ρ (ab_el d l j) x
section RH
variable (dC : Nat → ClassId) (dI : Nat → Nat → Nat) (dA : Nat → ClassId) (NF : Nat → Nat) (FT : Nat → Nat → Nat) (BS : Nat → Option ab_C)
/-- the script's own row (type 8), and cells that are not looked at -/
def ab_RW (b B n : Nat) (ρ : Nat → Int) (ty len : Nat) (ct : ab_A) (oc : Option Cell) : Prop := if ty = 8 then (∃ scr : Cell, oc = some scr ∧ scr.cls = dA 8 ∧ scr.vm ≠ .unknown ∧ (∀ k, scr.vm ≠ .statics k) ∧ scr.slots.size = len ∧ len ≤ 1000000 ∧ ∀ j : Nat, j < len → ∃ z : Int32, scr.slots[j]? = some (.int z) ∧ ab_rA b B n ρ ct j (.int z)) else ∃ ce, oc = some ce
theorem ab_RW.map {b B n n' : Nat} {ρ ρ' : Nat → Int} {ty len : Nat} {ct ct' : ab_A} {oc : Option Cell} (h : ab_RW dA b B n ρ ty len ct oc) (hm : ∀ j, j < len → ∀ z : Int32, ab_rA b B n ρ ct j (.int z) → ab_rA b B n' ρ' ct' j (.int z)) : ab_RW dA b B n' ρ' ty len ct' oc := by
  unfold ab_RW at h ⊢
  by_cases e : ty = 8
  · rw [if_pos e] at h ⊢
    obtain ⟨scr, w1, w2, w3, w4, w5, w6, w7⟩ := h
    refine ⟨scr, w1, w2, w3, w4, w5, w6, fun j hj => ?_⟩
    obtain ⟨z, h1, h2⟩ := w7 j hj
    exact ⟨z, h1, hm j hj z h2⟩
  · rw [if_neg e] at h ⊢
    exact h
def ab_RC (b B n : Nat) (ρ : Nat → Int) : ab_C → Option Cell → Prop
  | .inl (ci, fs), oc => ∃ (V : Nat → Value) (ce : Cell), oc = some ce ∧ ce.cls = dC ci ∧ ce.vm = .none ∧ (∀ k, k < NF ci → ce.slots[dI ci k]? = some (V k)) ∧ ∀ k, k < NF ci → ab_RV b B n ρ (ab_fv FT ci fs k) (V k)
  | .inr (ty, len, ct), oc => (5 ≤ ty ∧ ab_RW dA b B n ρ ty len ct oc) ∨ (ty ≤ 4 ∧ len ≤ 1000000 ∧ ∃ z : Nat → Value, oc = some (arrV (dA ty) len z) ∧ ∀ j, j < len → ab_ty ty (z j) ∧ match ct with
    | none => True
    | some (d, l) => ab_RV b B n ρ (ab_el d l j) (z j))
theorem ab_RC.ext {b B n n' : Nat} {ρ ρ' : Nat → Int} (hE : ab_Ext n ρ n' ρ') {x : ab_C} {oc : Option Cell} (h : ab_RC dC dI dA NF FT b B n ρ x oc) : ab_RC dC dI dA NF FT b B n' ρ' x oc := by
  match x, h with
  | .inl (ci, fs), ⟨V, ce, h1, h2, h3, h4, h5⟩ => exact ⟨V, ce, h1, h2, h3, h4, fun k hk => (h5 k hk).ext hE⟩
  | .inr (ty, len, none), Or.inl h => exact Or.inl ⟨h.1, ab_RW.map dA h.2 (fun _ _ _ q => q)⟩
  | .inr (ty, len, some (d, l)), Or.inl h => exact Or.inl ⟨h.1, ab_RW.map dA h.2 (fun _ _ _ q => ab_RV.ext hE q)⟩
  | .inr (ty, len, none), Or.inr ⟨h1, h2, z, h3, h4⟩ => exact Or.inr ⟨h1, h2, z, h3, h4⟩
  | .inr (ty, len, some (d, l)), Or.inr ⟨h1, h2, z, h3, h4⟩ => exact Or.inr ⟨h1, h2, z, h3, fun j hj => ⟨(h4 j hj).1, (h4 j hj).2.ext hE⟩⟩
def ab_RH (b B n : Nat) (ρ : Nat → Int) (h : ab_H) (H : Heap) : Prop :=
  1 ≤ h.1 ∧ H.size = B + (h.1 - 1) ∧ ∀ c x, ab_cl BS h c = some x → c < h.1 ∧ ab_RC dC dI dA NF FT b B n ρ x H[ab_ad b B c]?
variable {dC dI dA NF FT BS}
theorem ab_RH.ext {b B n n' : Nat} {ρ ρ' : Nat → Int} (hE : ab_Ext n ρ n' ρ') {h : ab_H} {H : Heap} (hH : ab_RH dC dI dA NF FT BS b B n ρ h H) : ab_RH dC dI dA NF FT BS b B n' ρ' h H :=
  ⟨hH.1, hH.2.1, fun c x hx => ⟨(hH.2.2 c x hx).1, ab_RC.ext dC dI dA NF FT hE (hH.2.2 c x hx).2⟩⟩
theorem ab_cl_put (h : ab_H) (c : Nat) (x : ab_C) (d : Nat) : ab_cl BS (ab_put h c x) d = if c = d then some x else ab_cl BS h d := by
  unfold ab_cl ab_put
  by_cases e : c = d
  · subst e
    rw [ab_lk_self, if_pos rfl]
  · rw [ab_lk_ne _ _ e, ab_lk_rm1 e, if_neg e]
theorem ab_cl_new (h : ab_H) (x : ab_C) (d : Nat) : ab_cl BS (ab_new h x) d = if h.1 = d then some x else ab_cl BS h d := by
  unfold ab_cl ab_new
  by_cases e : h.1 = d
  · subst e
    rw [ab_lk_self, if_pos rfl]
  · rw [ab_lk_ne _ _ e, if_neg e]
/-- an object whose field is told anew -/
theorem ab_RC.rm1 {b B n : Nat} {ρ : Nat → Int} {ci f : Nat} {v : ab_V} {fs : ab_L} {oc : Option Cell} (h : ab_RC dC dI dA NF FT b B n ρ (.inl (ci, (f, v) :: fs)) oc) : ab_RC dC dI dA NF FT b B n ρ (.inl (ci, (f, v) :: ab_rm1 f fs)) oc := by
  obtain ⟨V, ce, h1, h2, h3, h4, h5⟩ := h
  refine ⟨V, ce, h1, h2, h3, h4, fun k hk => ?_⟩
  have e : ab_fv FT ci ((f, v) :: ab_rm1 f fs) k = ab_fv FT ci ((f, v) :: fs) k := by
    unfold ab_fv
    by_cases e : f = k
    · subst e
      rw [ab_lk_self, ab_lk_self]
    · rw [ab_lk_ne _ _ e, ab_lk_ne _ _ e, ab_lk_rm1 e]
  rw [e]
  exact h5 k hk
theorem ab_RH.put {b B n : Nat} {ρ : Nat → Int} (hb : b < B) {h : ab_H} {H H1 : Heap} (hH : ab_RH dC dI dA NF FT BS b B n ρ h H) {c : Nat} {x y : ab_C} (hc : ab_cl BS h c = some y) (hx : ab_RC dC dI dA NF FT b B n ρ x H1[ab_ad b B c]?)
    (hz : H1.size = H.size) (ho : ∀ q : Nat, q ≠ ab_ad b B c → H1[q]? = H[q]?) : ab_RH dC dI dA NF FT BS b B n ρ (ab_put h c x) H1 := by
  refine ⟨hH.1, by rw [hz]; exact hH.2.1, fun d y2 hd => ?_⟩
  rw [ab_cl_put] at hd
  by_cases e : c = d
  · rw [if_pos e] at hd
    cases hd
    subst e
    exact ⟨(hH.2.2 c y hc).1, hx⟩
  · rw [if_neg e] at hd
    have h2 := hH.2.2 d y2 hd
    refine ⟨h2.1, ?_⟩
    rw [ho _ (fun q => e (ab_ad_inj hb q).symm)]
    exact h2.2
theorem ab_RH.new {b B n : Nat} {ρ : Nat → Int} {h : ab_H} {H H1 : Heap} (hH : ab_RH dC dI dA NF FT BS b B n ρ h H) (hb : b < B) {x : ab_C} (hx : ab_RC dC dI dA NF FT b B n ρ x H1[H.size]?)
    (hz : H1.size = H.size + 1) (ho : ∀ q : Nat, q < H.size → H1[q]? = H[q]?) : ab_RH dC dI dA NF FT BS b B n ρ (ab_new h x) H1 := by
  have h1 := hH.1
  have h2 := hH.2.1
  have ha : ab_ad b B h.1 = H.size := by
    rw [h2]
    cases hh : h.1 with
    | zero => omega
    | succ k => show B + k = B + (k + 1 - 1); omega
  refine ⟨Nat.le_succ_of_le h1, by show H1.size = B + (h.1 + 1 - 1); omega, fun d y hd => ?_⟩
  rw [ab_cl_new] at hd
  by_cases e : h.1 = d
  · rw [if_pos e] at hd
    cases hd
    subst e
    exact ⟨Nat.lt_succ_self _, by rw [ha]; exact hx⟩
  · rw [if_neg e] at hd
    have h3 := hH.2.2 d y hd
    refine ⟨Nat.lt_succ_of_lt h3.1, ?_⟩
    have hlt : ab_ad b B d < H.size := by
      have := h3.1
      cases d with
      | zero => show b < H.size; omega
      | succ k => show B + k < H.size; omega
    rw [ho _ hlt]
    exact h3.2
theorem ab_RH.addr {b B n : Nat} {ρ : Nat → Int} {h : ab_H} {H : Heap} (hH : ab_RH dC dI dA NF FT BS b B n ρ h H) : ab_ad b B h.1 = H.size := by
  have h1 := hH.1
  rw [hH.2.1]
  cases hh : h.1 with
  | zero => omega
  | succ k => show B + k = B + (k + 1 - 1); omega
end RH
