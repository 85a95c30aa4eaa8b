/-! ROWS of the heap: fields, new objects, rows of numbers. -/
def ab_tk (t : Nat) (ty : FieldType) : Prop := match t with
  | 0 => ty = .int
  | 1 => ty = .long
  | 2 => ty = .boolean
  | _ => ty.isReference = true
theorem ab_tk3 {t : Nat} (h : 3 ≤ t) {ty : FieldType} (hk : ab_tk t ty) : ty.isReference = true := by
  match t, h, hk with
  | 0, h, _ => omega
  | 1, h, _ => omega
  | 2, h, _ => omega
  | _ + 3, _, hk => exact hk
theorem ab_ref_fit {ty : FieldType} (h : ty.isReference = true) {x : Value} (hx : x = .null ∨ ∃ a, x = .ref a) : narrow ty x = x ∧ fits ty x = true := by
  cases ty with
  | object C => rcases hx with rfl | ⟨a, rfl⟩ <;> exact ⟨rfl, rfl⟩
  | array t => rcases hx with rfl | ⟨a, rfl⟩ <;> exact ⟨rfl, rfl⟩
  | _ => cases h
theorem ab_01 {z : Int} (h1 : 0 ≤ z) (h2 : z ≤ 1) : z = 0 ∨ z = 1 := by omega
theorem ab_fit_ok {b B : Nat} {ρ : Nat → Int} {G : ab_G} (hs : ab_Sat ρ G) {t : Nat} {ty : FieldType} (hk : ab_tk t ty) {v : ab_V} {x : Value} (h : ab_RV b B G.1 ρ v x) (hf : ab_fit G t v = true) : narrow ty x = x ∧ fits ty x = true := by
  match v, h with
  | .inl (.inl s), ⟨h1, h2, h3⟩ =>
    unfold ab_fit at hf
    dsimp only at hf
    cases e0 : Nat.beq t 0
    · rw [e0, cond_false] at hf
      cases e2 : Nat.beq t 2
      · rw [e2, cond_false] at hf; cases hf
      · rw [e2, cond_true] at hf
        obtain ⟨a1, a2⟩ := ab_an hf
        have ht : t = 2 := ab_beq e2
        subst ht
        have hty : ty = .boolean := hk
        subst hty
        have hiv := ab_iv_ok hs h3
        rcases ab_01 (Int.le_trans ((ab_le_iff _ _).mp a1) hiv.1) (Int.le_trans hiv.2 ((ab_le_iff _ _).mp a2)) with e | e <;> rw [e] at h1 <;> subst h1 <;> exact ⟨rfl, rfl⟩
    · have ht : t = 0 := ab_beq e0
      subst ht
      have hty : ty = .int := hk
      subst hty
      subst h1
      exact ⟨rfl, rfl⟩
  | .inl (.inr s), ⟨h1, h2, h3⟩ =>
    unfold ab_fit at hf
    have ht : t = 1 := ab_beq hf
    subst ht
    have hty : ty = .long := hk
    subst hty
    subst h1
    exact ⟨rfl, rfl⟩
  | .inr (.inl c), h =>
    unfold ab_fit at hf
    exact ab_ref_fit (ab_tk3 (ab_ble hf) hk) (Or.inr ⟨_, h⟩)
  | .inr (.inr u), h =>
    unfold ab_fit at hf
    dsimp only at hf
    obtain ⟨h1, h2⟩ := ab_an hf
    have hu : u = 0 := ab_beq h2
    subst hu
    refine ab_ref_fit (ab_tk3 (ab_ble h1) hk) (Or.inl ?_)
    rcases h with ⟨_, h⟩ | ⟨h, _⟩ | ⟨h, _⟩ | ⟨h, _⟩ | ⟨h, _⟩
    · exact h
    all_goals cases h
theorem ab_z0 : ab_R 0 0 := ⟨by decide, by decide⟩
theorem ab_z1 : ab_R 1 0 := ⟨by decide, by decide⟩
theorem ab_def_ok {b B n : Nat} {ρ : Nat → Int} {t : Nat} {ty : FieldType} (hk : ab_tk t ty) : ab_RV b B n ρ (ab_def t) (defaultValue ty) := by
  match t, hk with
  | 0, hk => rw [show ty = .int from hk]; exact ⟨rfl, ab_z0, trivial⟩
  | 1, hk => rw [show ty = .long from hk]; exact ⟨rfl, ab_z1, trivial⟩
  | 2, hk => rw [show ty = .boolean from hk]; exact ⟨rfl, ab_z0, trivial⟩
  | t + 3, hk =>
    have h : ty.isReference = true := hk
    cases ty with
    | object C => exact Or.inl ⟨rfl, rfl⟩
    | array t => exact Or.inl ⟨rfl, rfl⟩
    | _ => cases h
/-- an index within -/
theorem ab_idx {z : Int} {n : Nat} (h0 : 0 ≤ z) (h1 : z < n) (hn : n ≤ 1000000) : (Int32.ofInt z).toNatClampNeg = z.toNat ∧ ¬ (Int32.ofInt z < 0 ∨ n ≤ (Int32.ofInt z).toNatClampNeg) := by
  have e : (Int32.ofInt z).toInt = z := ab_t32 (by constructor <;> (try unfold ab_lo) <;> (try unfold ab_hi) <;> simp <;> omega)
  have e2 : (Int32.ofInt z).toNatClampNeg = z.toNat := by
    show (Int32.ofInt z).toInt.toNat = _
    rw [e]
  refine ⟨e2, fun h => ?_⟩
  rcases h with h | h
  · rw [Int32.lt_iff_toInt_lt, e] at h
    have : (0 : Int32).toInt = 0 := rfl
    omega
  · rw [e2] at h
    omega
/-- what is known of a class: its place, its words, its types, its names -/
def ab_CL (cl : List vw_C) (NF : Nat → Nat) (FT : Nat → Nat → Nat) (Ts : List Cond) (ci : Nat) (C : String) (T : u_T) : Prop :=
  cl[ci]? = some (C, T, NF ci) ∧ (∀ w ∈ u_ws C T (NF ci), w ∈ Ts) ∧ (∃ ty : Nat → FieldType, ∀ k, k < NF ci → parseFieldDescriptor (T k).2.2.1 = some (ty k) ∧ ab_tk (FT ci k) (ty k)) ∧ ∀ a, a < NF ci → ∀ b, b < NF ci → a ≠ b → (T a).2.1 ≠ (T b).2.1
def ab_tys (dA : Nat → ClassId) : List (ClassId × FieldType) := [(dA 0, .int), (dA 1, .long), (dA 2, .boolean), (dA 3, .array .int), (dA 4, .array .long)]
/-- a row's type -/
def ab_et (t : Nat) : FieldType := match t with
  | 0 => .int
  | 1 => .long
  | 2 => .boolean
  | 3 => .array .int
  | _ => .array .long
theorem ab_tys_at (dA : Nat → ClassId) {t : Nat} (h : t ≤ 4) : (ab_tys dA)[t]? = some (dA t, ab_et t) := by
  match t, h with
  | 0, _ => rfl
  | 1, _ => rfl
  | 2, _ => rfl
  | 3, _ => rfl
  | 4, _ => rfl
  | _ + 5, h => omega
theorem ab_et_tk {t : Nat} (h : t ≤ 4) : ab_tk t (ab_et t) := by
  match t, h with
  | 0, _ => rfl
  | 1, _ => rfl
  | 2, _ => rfl
  | 3, _ => rfl
  | 4, _ => rfl
  | _ + 5, h => omega
theorem ab_ty_def {t : Nat} : ab_ty t (defaultValue (ab_et t)) := by
  match t with
  | 0 => exact ⟨_, rfl⟩
  | 1 => exact ⟨_, rfl⟩
  | 2 => exact Or.inl rfl
  | _ + 3 => exact trivial
section R2
variable {p : Program} {l : Launch} {e : Env} {R : Room} {s : State} {m : MethodId} {args : Array Value} {below : List Frame} {meth : Method} {c : Code} {H : Heap} {locs : List Loc} {cells slots : Nat} {Q : State → Prop}
variable {cc : ByteArray} {pc : Nat} {ls : Array Slot} {rest : List Value}
variable {D : va_G} {cl : List vw_C} {dA : Nat → ClassId} {NF : Nat → Nat} {FT : Nat → Nat → Nat} {b B n : Nat} {ρ : Nat → Int} {Ts : List Cond}
/-- getfield -/
theorem ab_w30 (hx : p.tables.exec = Jvm.exec) (hb : c.code = cc) (hts : ∀ w ∈ Ts, w.before args s = true) {own C : String} {T : u_T} {ci index f a : Nat} {fs : ab_L} {tys : List (ClassId × FieldType)} (hown : s.vm.findClass own = some m.cls) (hK : va_K D cl tys s) (hCL : ab_CL cl NF FT Ts ci C T) (hk : f < NF ci)
    (hlink : Cond.fieldLink own index (T f).1 (T f).2.1 (T f).2.2.1 ∈ Ts) (hR : ab_RC D.1 D.2 dA NF FT b B n ρ (.inl (ci, fs)) H[a]?) (hd : decode cc pc = .ok (.getfield index, 3))
    (k : ∀ x, ab_RV b B n ρ (ab_fv FT ci fs f) x → W p l e R s m args below meth c H locs cells slots Q (F0 m (pc + 3) ls (x :: rest))) : W p l e R s m args below meth c H locs cells slots Q (F0 m pc ls (.ref a :: rest)) := by
  obtain ⟨V, ce, h1, h2, h3, h4, h5⟩ := hR
  obtain ⟨hc, hin, ⟨ty, hty⟩, hnm⟩ := hCL
  obtain ⟨hS, hfc, kC, hkC, hkind⟩ := hK.1 ci _ hc
  obtain ⟨cf, kf, fi, fd, hi, hsl⟩ := hS f hk
  refine W.getf hx hb hown (hts _ hlink) hi (u_facts hfc hkC (u_lays hts hin hk) hi).1 h1 (by rw [h3]; exact fun h => by cases h) (v := V f) ?_ rfl rfl hd (k _ (h5 f hk))
  rw [hsl]
  exact h4 f hk
theorem ab_fv_self {ci f : Nat} {v : ab_V} {fs : ab_L} : ab_fv FT ci ((f, v) :: fs) f = v := by
  unfold ab_fv
  rw [ab_lk_self]
theorem ab_fv_ne {ci f j : Nat} {v : ab_V} {fs : ab_L} (h : f ≠ j) : ab_fv FT ci ((f, v) :: fs) j = ab_fv FT ci fs j := by
  unfold ab_fv
  rw [ab_lk_ne _ _ h]
/-- putfield -/
theorem ab_w31 (hx : p.tables.exec = Jvm.exec) (hb : c.code = cc) (hts : ∀ w ∈ Ts, w.before args s = true) {own C : String} {T : u_T} {ci index f a : Nat} {fs : ab_L} {tys : List (ClassId × FieldType)} (hown : s.vm.findClass own = some m.cls) (hK : va_K D cl tys s) (hCL : ab_CL cl NF FT Ts ci C T) (hk : f < NF ci)
    (hlink : Cond.fieldLink own index (T f).1 (T f).2.1 (T f).2.2.1 ∈ Ts) (hfin : (T f).2.2.2 = true → meth.name = "<init>" ∧ (T f).1 = own) (hR : ab_RC D.1 D.2 dA NF FT b B n ρ (.inl (ci, fs)) H[a]?) (hd : decode cc pc = .ok (.putfield index, 3))
    {v : ab_V} {x : Value} (hv : ab_RV b B n ρ v x) (hft : ∀ ty, ab_tk (FT ci f) ty → narrow ty x = x ∧ fits ty x = true)
    (k : ∀ (H1 : Heap) (i : Nat), ab_RC D.1 D.2 dA NF FT b B n ρ (.inl (ci, (f, v) :: fs)) H1[a]? → H1.size = H.size → (∀ q : Nat, q ≠ a → H1[q]? = H[q]?) → W p l e R s m args below meth c H1 (locs ++ [⟨a, i⟩]) cells slots Q (F0 m (pc + 3) ls rest)) : W p l e R s m args below meth c H locs cells slots Q (F0 m pc ls (x :: .ref a :: rest)) := by
  obtain ⟨hc, hin, ⟨ty, hty⟩, hnm⟩ := hCL
  have hap := va_apart (own := own) hts hin ty (fun k hk => (hty k hk).1) hnm hK hc
  obtain ⟨V, ce, h1, h2, h3, h4, h5⟩ := hR
  obtain ⟨hS, hfc, kC, hkC, hkind⟩ := hK.1 ci _ hc
  obtain ⟨cf, kf, fi, fd, hi, hsl⟩ := hS f hk
  have hft' := hft _ (hty f hk).2
  have hst := (u_facts hfc hkC (u_lays hts hin hk) hi).1
  have hlay := hts _ (hin _ (u_in_lay hk))
  have hend : ∀ H1 : Heap, H1[a]? = some (ce.setSlot fd.slot x) → ab_RC D.1 D.2 dA NF FT b B n ρ (.inl (ci, (f, v) :: fs)) H1[a]? := fun H1 e1 => by
    refine ⟨updV V f x, _, e1, h2, h3, ?_, fun j hj => ?_⟩
    · rw [hsl]
      exact t_set h4 hap hk x
    · by_cases e : j = f
      · subst e
        rw [ab_fv_self]
        show ab_RV b B n ρ v (if j = j then x else V j)
        rw [if_pos rfl]
        exact hv
      · rw [ab_fv_ne (Ne.symm e)]
        show ab_RV b B n ρ _ (if j = f then x else V j)
        rw [if_neg e]
        exact h5 j hj
  unfold u_lay at hlay
  cases hf : (T f).2.2.2
  · rw [if_neg (by rw [hf]; decide)] at hlay
    have h6 := u_store hfc hkC hkind hlay hi (hty f hk).1 hft'.1 hft'.2
    refine W.putK hx hb (f := fd) ⟨hown, hts _ hlink, ⟨_, _, _, hi⟩, hst⟩ (by rw [h2]; exact h6) h1 h3 (by rw [hsl]; exact k2_hasslot (h4 f hk)) rfl rfl hd fun H' e1 e2 e3 => ?_
    exact k H' _ (hend H' e1) e2 e3
  · rw [if_pos hf] at hlay
    obtain ⟨hin2, hdecl⟩ := hfin hf
    have hcf : m.cls = cf := by
      obtain ⟨_, _, c', _, _, _, -, -, hf', -, -, -, hown2, -⟩ := Cond.laysFinal_spec hlay
      have e1 : c' = cf := by have := hi.symm.trans hf'; simp at this; exact this.1.symm
      rw [hdecl] at hown2
      rw [← e1]; exact Option.some.inj (hown.symm.trans hown2)
    have h6 := u_fits hfc hkC hkind (Or.inr hlay) hi (hty f hk).1 hft'.1 hft'.2
    refine W.putFinK hx hb hown (hts _ hlink) hi hst hcf hin2 (by rw [h2]; exact h6) h1 h3 (by rw [hsl]; exact k2_hasslot (h4 f hk)) rfl rfl hd fun H' e1 e2 e3 => ?_
    exact k H' _ (hend H' e1) e2 e3
/-- new -/
theorem ab_w32 (hx : p.tables.exec = Jvm.exec) (hb : c.code = cc) (hts : ∀ w ∈ Ts, w.before args s = true) {own C : String} {T : u_T} {ci index : Nat} {tys : List (ClassId × FieldType)} (hown : s.vm.findClass own = some m.cls) (hK : va_K D cl tys s) (hCL : ab_CL cl NF FT Ts ci C T)
    (hlink : Cond.classLink own index C ∈ Ts) (hinst : Cond.instantiable C (NF ci) ∈ Ts) (hini : (Cond.initialized C).before args s = true) (hcells : cells + 1 ≤ R.cells) (hslots : slots + NF ci ≤ R.slots) (hd : decode cc pc = .ok (.new index, 3))
    (k : ∀ H1 : Heap, ab_RC D.1 D.2 dA NF FT b B n ρ (.inl (ci, [])) H1[H.size]? → H1.size = H.size + 1 → (∀ q : Nat, q < H.size → H1[q]? = H[q]?) → W p l e R s m args below meth c H1 locs (cells + 1) (slots + NF ci) Q (F0 m (pc + 3) ls (.ref H.size :: rest))) : W p l e R s m args below meth c H locs cells slots Q (F0 m pc ls rest) := by
  obtain ⟨hc, hin, ⟨ty, hty⟩, hnm⟩ := hCL
  have hKn := hK.1 ci _ hc
  refine W.newcK hx hb hown (hts _ hlink) (hts _ hinst) hini rfl hd hcells hslots hKn.2.1 rfl fun H1 kC hkC e1 z1 o1 => k H1 ?_ z1 o1
  obtain ⟨ce, g1, g2, g3, g4⟩ := u_born ty hts hin hKn hkC e1 (fun k hk => (hty k hk).1)
  exact ⟨_, ce, g1, g2, g3, g4, fun j hj => ab_def_ok (hty j hj).2⟩
/-- newarray -/
def ab_k34 (ins : Instr) (t : Nat) : Prop := match ins with
  | .newarray a => newarray.typeOf a = ab_et t ∧ t ≤ 2
  | _ => False
theorem ab_w34 (hx : p.tables.exec = Jvm.exec) (hb : c.code = cc) (hts : ∀ w ∈ Ts, w.before args s = true) {t N : Nat} (hK : va_K D cl (ab_tys dA) s) {ins : Instr} (hk : ab_k34 ins t) (hw : Cond.arrayClass (ab_et t) ∈ Ts) (hN : N ≤ 1000000) (hcells : cells + 1 ≤ R.cells) (hslots : slots + N ≤ R.slots) (hd : decode cc pc = .ok (ins, 2))
    (k : ∀ H1 : Heap, ab_RC D.1 D.2 dA NF FT b B n ρ (.inr (t, N, some (ab_def t, []))) H1[H.size]? → H1.size = H.size + 1 → (∀ q : Nat, q < H.size → H1[q]? = H[q]?) → W p l e R s m args below meth c H1 locs (cells + 1) (slots + N) Q (F0 m (pc + 2) ls (.ref H.size :: rest))) : W p l e R s m args below meth c H locs cells slots Q (F0 m pc ls (.int (Int32.ofInt (.ofNat N)) :: rest)) := by
  unfold ab_k34 at hk
  split at hk
  · rename_i at0
    obtain ⟨e, ht⟩ := hk
    have hn : (Int32.ofInt (Int.ofNat N)).toInt = N := ab_t32 (by constructor <;> (try unfold ab_lo) <;> (try unfold ab_hi) <;> simp <;> omega)
    have hb0 : componentBytes (newarray.typeOf at0) ≤ 8 := by cases at0 <;> decide
    refine va_newaK hx hb (by rw [e]; exact hts _ hw) rfl hd (N := N) rfl (fun q => ?_) ?_ ?_ hcells hslots rfl fun H1 cA e1 z1 o1 hA hf => k H1 ?_ z1 o1
    · rw [Int32.lt_iff_toInt_lt, hn] at q
      have : (0 : Int32).toInt = 0 := rfl
      omega
    · show (Int32.ofInt (Int.ofNat N)).toInt.toNat = N
      rw [hn]; rfl
    · exact Nat.le_trans (Nat.mul_le_mul hN hb0) (by decide)
    · rw [e] at hf e1
      have hf2 := (hK.2 t _ (ab_tys_at dA (by omega))).2
      have ec : cA = dA t := by
        have h3 : s.vm.findClass ("[" ++ (ab_et t).toString) = some (dA t) := by
          match t, ht, hf2 with
          | 0, _, h => exact h
          | 1, _, h => exact h
          | 2, _, h => exact h
          | _ + 3, h, _ => omega
        exact Option.some.inj (hf.symm.trans h3)
      subst ec
      exact Or.inr ⟨by omega, hN, _, e1, fun j hj => ⟨ab_ty_def, ab_def_ok (ab_et_tk (by omega))⟩⟩
  · exact hk.elim
/-- array loads -/
def ab_k38 (ins : Instr) (t : Nat) : Prop := match ins with
  | .iaload => t = 0
  | .laload => t = 1
  | .baload => t = 2
  | .aaload => t = 3 ∨ t = 4
  | _ => False
theorem ab_w38 (hx : p.tables.exec = Jvm.exec) (hb : c.code = cc) {t N a : Nat} {zf : Nat → Value} (hK : va_K D cl (ab_tys dA) s) {ins : Instr} (hk : ab_k38 ins t) (hc : H[a]? = some (arrV (dA t) N zf)) (hN : N ≤ 1000000) {j : Int} (h0 : 0 ≤ j) (h1 : j < N) (hd : decode cc pc = .ok (ins, 1))
    (k : W p l e R s m args below meth c H locs cells slots Q (F0 m (pc + 1) ls (zf j.toNat :: rest))) : W p l e R s m args below meth c H locs cells slots Q (F0 m pc ls (.int (Int32.ofInt j) :: .ref a :: rest)) := by
  obtain ⟨e1, e2⟩ := ab_idx h0 h1 hN
  have hv : (arrV (dA t) N zf).slots[(Int32.ofInt j).toNatClampNeg]? = some (zf j.toNat) := by
    rw [e1]
    exact arrV_read _ _ (by omega)
  have hin : ¬ (Int32.ofInt j < 0 ∨ (arrV (dA t) N zf).slots.size ≤ (Int32.ofInt j).toNatClampNeg) := by rw [arrV_size]; exact e2
  unfold ab_k38 at hk
  split at hk
  · subst hk
    exact W.iald hx hb hc ((hK.2 0 _ rfl).1 N zf) (fun q => by cases q) hin hv rfl rfl hd k
  · subst hk
    exact W.lald hx hb hc ((hK.2 1 _ rfl).1 N zf) (fun q => by cases q) hin hv rfl rfl hd k
  · subst hk
    exact W.zald hx hb hc ((hK.2 2 _ rfl).1 N zf) (fun q => by cases q) hin hv rfl rfl hd k
  · rcases hk with rfl | rfl
    · exact W.aald hx hb hc ((hK.2 3 _ rfl).1 N zf) rfl (fun q => by cases q) hin hv rfl rfl hd k
    · exact W.aald hx hb hc ((hK.2 4 _ rfl).1 N zf) rfl (fun q => by cases q) hin hv rfl rfl hd k
  · exact hk.elim
/-- array stores -/
def ab_k39 (ins : Instr) (t : Nat) : Prop := match ins with
  | .iastore => t = 0
  | .lastore => t = 1
  | .bastore => t = 2
  | _ => False
theorem ab_w39 (hx : p.tables.exec = Jvm.exec) (hb : c.code = cc) {t N a : Nat} {zf : Nat → Value} (hK : va_K D cl (ab_tys dA) s) {ins : Instr} (hk : ab_k39 ins t) (hc : H[a]? = some (arrV (dA t) N zf)) (hN : N ≤ 1000000) {j : Int} (h0 : 0 ≤ j) (h1 : j < N) {x : Value} (hxt : ab_ty t x) (hd : decode cc pc = .ok (ins, 1))
    (k : ∀ H1 : Heap, H1[a]? = some (arrV (dA t) N (updV zf j.toNat x)) → H1.size = H.size → (∀ q : Nat, q ≠ a → H1[q]? = H[q]?) → W p l e R s m args below meth c H1 (locs ++ [⟨a, j.toNat⟩]) cells slots Q (F0 m (pc + 1) ls rest)) : W p l e R s m args below meth c H locs cells slots Q (F0 m pc ls (x :: .int (Int32.ofInt j) :: .ref a :: rest)) := by
  obtain ⟨e1, e2⟩ := ab_idx h0 h1 hN
  have hin : ¬ (Int32.ofInt j < 0 ∨ (arrV (dA t) N zf).slots.size ≤ (Int32.ofInt j).toNatClampNeg) := by rw [arrV_size]; exact e2
  unfold ab_k39 at hk
  split at hk
  · subst hk
    obtain ⟨v, rfl⟩ := hxt
    refine W.iast hx hb hc ((hK.2 0 _ rfl).1 N zf) (fun q => by cases q) hin rfl rfl hd fun H1 g1 g2 g3 => ?_
    rw [e1] at g1 ⊢
    exact k H1 (by rw [g1, arrV_store]) g2 g3
  · subst hk
    obtain ⟨v, rfl⟩ := hxt
    refine W.last hx hb hc ((hK.2 1 _ rfl).1 N zf) (fun q => by cases q) hin rfl rfl hd fun H1 g1 g2 g3 => ?_
    rw [e1] at g1 ⊢
    exact k H1 (by rw [g1, arrV_store]) g2 g3
  · subst hk
    obtain ⟨v, rfl, hn⟩ : ∃ v : Int32, x = .int v ∧ narrow .boolean (.int v) = .int v := by
      rcases hxt with rfl | rfl
      · exact ⟨0, rfl, rfl⟩
      · exact ⟨1, rfl, rfl⟩
    refine W.zast hx hb hc ((hK.2 2 _ rfl).1 N zf) (fun q => by cases q) hin rfl rfl hd fun H1 g1 g2 g3 => ?_
    rw [e1] at g1 ⊢
    rw [hn] at g1
    exact k H1 (by rw [g1, arrV_store]) g2 g3
  · exact hk.elim
/-- arraylength -/
theorem ab_w37 (hx : p.tables.exec = Jvm.exec) (hb : c.code = cc) {t N a : Nat} {zf : Nat → Value} (hK : va_K D cl (ab_tys dA) s) (ht : t ≤ 4) (hc : H[a]? = some (arrV (dA t) N zf)) (hd : decode cc pc = .ok (.arraylength, 1))
    (k : W p l e R s m args below meth c H locs cells slots Q (F0 m (pc + 1) ls (.int (Int32.ofInt (.ofNat N)) :: rest))) : W p l e R s m args below meth c H locs cells slots Q (F0 m pc ls (.ref a :: rest)) :=
  W.alen (n := Int32.ofInt (.ofNat N)) hx hb hc ((hK.2 t _ (ab_tys_at dA ht)).1 N zf) (by rw [arrV_size]; first | rfl | (simp; done) | exact (Int32.ofInt_eq_ofNat).symm) rfl rfl hd k
end R2
