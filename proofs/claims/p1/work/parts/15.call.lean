/-! CALLS. -/
theorem ab_AOT.moved {ty : FieldType} {u U : State} (hvm : u.vm.Alike U.vm) (h : ab_AOT ty u) : ab_AOT ty U := by
  obtain ⟨comp, c, k, h1, h2, h3, h4, h5⟩ := ab_overA h
  obtain ⟨k', hk', he⟩ := hvm.2.2 _ _ h3
  have hi : (U.vm.classes.findIdx? fun (x : Class) => match x.kind with | .array component _ => component == comp | _ => false) = some c := by
    have e1 := va_idx_bare U.vm comp
    have e2 := va_idx_bare u.vm comp
    have eb : U.vm.bare = u.vm.bare := by first | exact hvm.bare_eq | exact hvm.bare_eq.symm
    rw [eb] at e1
    exact (e1.symm.trans e2).trans h2
  have hkind : k'.kind = .array comp (.array ty) := by rw [he]; exact h4
  have f1 : U.vm.findClass (FieldType.array ty).toString = some comp := by rw [hvm.findClass]; exact h1
  have f2 : U.vm.findClass ("[" ++ (FieldType.array ty).toString) = some c := by rw [hvm.findClass]; exact h5
  unfold ab_AOT Cond.before Cond.holds
  simp only [Cond.value]
  rw [f1, Option.bind_some]
  refine (congrArg (fun o : Option Nat => (o.bind (fun c => (U.vm.classes[c]?).map fun (k : Class) => match k.kind with | .array _ tz => decide (tz = FieldType.array ty) && decide (U.vm.findClass ("[" ++ (FieldType.array ty).toString) = some c) | _ => false) == some true)) hi).trans ?_
  simp [hk', hkind, f2]
theorem ab_SC.moved {U : ab_UT} {s t : State} (hvm : s.vm.Alike t.vm) (h : ab_SC U s) : ab_SC U t := by
  obtain ⟨k, h1, comp, h2⟩ := h
  obtain ⟨k', hk', he⟩ := hvm.2.2 _ _ h1
  exact ⟨k', hk', comp, by rw [he]; exact h2⟩
theorem ab_KH.moved {Z : ab_ZT} {U : ab_UT} (hNW : ∀ w ∈ ab_zNW Z, ∀ s U : State, s.WarmedH U.vm → va_Nw w s → va_Nw w U) {s t : State} (hW : s.WarmedH t.vm) (h : ab_KH Z U s) (hq : ∀ a : Nat, a < s.heap.size → ¬ ab_nA U a → t.heap[a]? = s.heap[a]?) : ab_KH Z U t := by
  obtain ⟨h1, h2, h3, h4, h5, h6, h7, h8⟩ := h
  exact ⟨va_K.moved hW.alike h1, fun w hw => hNW w hw s t hW (h2 w hw), ab_AOT.moved hW.alike h3, fun q hq => (h4 q hq).moved hW.alike, vx_Zq.moved hW.alike (h5.kept hq), vx_Zq.moved hW.alike (h6.kept hq), ab_AOT.moved hW.alike h7, ab_SC.moved hW.alike h8⟩
/-- a method's own word -/
def ab_cw (Z : ab_ZT) (y : Nat) : Cond := match ab_zHT Z y with
  | [] => Cond.code (ab_zY Z y) (ab_zCB Z y) (ab_zML Z y) (ab_zRT Z y)
  | q :: r => Cond.codeWith (ab_zY Z y) (ab_zCB Z y) (ab_zML Z y) (ab_zRT Z y) (q :: r)
/-- its handlers, by the tables -/
def ab_HK (Z : ab_ZT) (y : Nat) : Prop := ((ab_zP Z y).2.2.2 = [] → ab_zHT Z y = []) ∧ ∀ pc e g, ab_han pc e (ab_zP Z y).2.2.2 = some g →
  ∃ (pre : List ExceptionTableEntry) (x : ExceptionTableEntry) (suf : List ExceptionTableEntry) (name : String), tableOf (ab_zHT Z y) = pre ++ x :: suf ∧ (∀ z ∈ pre, covers z pc = false ∨ (z.catchType ≠ 0 ∧ ∃ nm : String, Cond.classLink (ab_zY Z y).cls z.catchType nm ∈ ab_zTW Z ∧ (ab_zEN Z e, nm) ∈ ab_zNX Z)) ∧
    covers x pc = true ∧ x.catchType ≠ 0 ∧ Cond.classLink (ab_zY Z y).cls x.catchType name ∈ ab_zTW Z ∧ Cond.castable (ab_zEN Z e) name ∈ ab_zNW Z ∧ ab_tg Z y g x.handlerPc
/-- a method that is called -/
def ab_MK (Z : ab_ZT) (y : Nat) : Prop := plainFor (ab_zY Z y) = true ∧ ((ab_zY Z y).cls ≠ "java/lang/invoke/MethodHandle" ∧ (ab_zY Z y).cls ≠ "java/lang/invoke/VarHandle") ∧ ab_cw Z y ∈ ab_zTW Z ∧ Cond.initialized (ab_zY Z y).cls ∈ ab_zTW Z ∧ ab_HK Z y ∧ ab_tg Z y 0 0
def ab_EC (Z : ab_ZT) (y : Nat) (ins : Instr) (len y2 n vc mx : Nat) : Prop := len = 3 ∧ ab_zFR Z y2 + 1 ≤ ab_zFR Z y ∧ 40 + (ab_zML Z y2 + 11) + ab_zLO Z y2 ≤ ab_zLO Z y ∧ mx = ab_zML Z y2 ∧ ab_MK Z y2 ∧
  ∃ i np, (parseMethodDescriptor (ab_zY Z y2).desc).map (fun d => d.parameters.length) = some np ∧
    ((ins = .invokestatic i ∧ Cond.static (ab_zY Z y2) ∈ ab_zTW Z ∧ n = np ∧ (Cond.methodLink (ab_zY Z y).cls i (ab_zY Z y2) ∈ ab_zTW Z ∨ (ab_zHT Z y2 = [] ∧ ∃ host, Cond.methodLinkNest (ab_zY Z y).cls i (ab_zY Z y2) host ∈ ab_zNW Z))) ∨
     (ab_zHT Z y2 = [] ∧ ins = .invokevirtual i ∧ Cond.instanceMethod (ab_zY Z y2) ∈ ab_zTW Z ∧ Cond.selects (ab_zY Z y2).cls (ab_zY Z y2) (ab_zY Z y2) ∈ ab_zTW Z ∧ n = np + 1 ∧ (∃ ci, vc = ci + 1 ∧ ab_CL (ab_zcl Z) (ab_zNF Z) (ab_zFT Z) (ab_zTW Z) ci (ab_zY Z y2).cls (ab_zCT Z ci).2) ∧ (Cond.methodLink (ab_zY Z y).cls i (ab_zY Z y2) ∈ ab_zTW Z ∨ ∃ host, Cond.methodLinkNest (ab_zY Z y).cls i (ab_zY Z y2) host ∈ ab_zNW Z)) ∨
     (ab_zHT Z y2 = [] ∧ (∃ ci, vc = ci + 1) ∧ ab_zRT Z y2 = none ∧ ins = .invokespecial i ∧ (ab_zY Z y2).name = "<init>" ∧ Cond.instanceMethod (ab_zY Z y2) ∈ ab_zTW Z ∧ n = np + 1 ∧ (Cond.methodLink (ab_zY Z y).cls i (ab_zY Z y2) ∈ ab_zTW Z ∨ ∃ host, Cond.methodLinkNest (ab_zY Z y).cls i (ab_zY Z y2) host ∈ ab_zNW Z)))
/-- what every step rests on -/
def ab_Gd (Z : ab_ZT) : Prop := (∀ w ∈ ab_zTW Z, (w.onTables && w.keeps) = true ∨ ∃ ty, w = .arrayClass ty) ∧ (∀ w ∈ ab_zNW Z, ∀ s U : State, s.WarmedH U.vm → va_Nw w s → va_Nw w U) ∧ (∀ w ∈ ab_zNW Z, w.onTables = true) ∧ ∀ c x, ab_zBS Z c = some x → ab_cC x = true
/-- the callee's room -/
def ab_rmy (Z : ab_ZT) (y : Nat) : Room := { frames := ab_zFR Z y, cells := (ab_zP Z y).2.1, slots := (ab_zP Z y).2.2.1, locals := ab_zLO Z y }
def ab_Pc (Z : ab_ZT) (U : ab_UT) (As : List Value) (n : Nat) (ρ : Nat → Int) (h : ab_H) : Array Value → State → Prop := fun a st => a = As.toArray ∧ ab_KH Z U st ∧ ab_rH Z U n ρ h st.heap
def ab_Qc (Z : ab_ZT) (U : ab_UT) (n : Nat) (ρ : Nat → Int) (kk : ab_K) : Array Value → State → Outcome → State → Prop := fun _ st o t => ∃ v, o = .returned v ∧ ∃ (a2 : Nat) (S2 : List ab_V) (L2 : ab_L) (G2 : ab_G) (h2 : ab_H) (cn2 sn2 : Nat) (ρ2 : Nat → Int), kk 0 a2 S2 L2 G2 h2 cn2 sn2 = true ∧ ab_Ext n ρ G2.1 ρ2 ∧ ab_Sat ρ2 G2 ∧ ab_rS U G2.1 ρ2 S2 v.toList ∧ ab_rH Z U G2.1 ρ2 h2 t.heap ∧ va_F (ab_nA U) st t
def ab_XC (Z : ab_ZT) (U : ab_UT) (n : Nat) (ρ : Nat → Int) (kk : ab_K) : String → State → State → Prop := fun E st t => ∃ (e2 : Nat) (S2 : List ab_V) (L2 : ab_L) (G2 : ab_G) (h2 : ab_H) (cn2 sn2 : Nat) (ρ2 : Nat → Int), E = ab_zEN Z e2 ∧ kk 1 e2 S2 L2 G2 h2 cn2 sn2 = true ∧ ab_Ext n ρ G2.1 ρ2 ∧ ab_Sat ρ2 G2 ∧ ab_rH Z U G2.1 ρ2 h2 t.heap ∧ va_F (ab_nA U) st t
theorem ab_args_R2 {b B n : Nat} {ρ : Nat → Int} : ∀ {as : List ab_V} {As : List Value} (i : Nat), ab_RS b B n ρ as As → ab_R2 b B n ρ (ab_args as i) (lv_args i As)
  | [], [], _, _ => trivial
  | v :: as, x :: As, i, h => by
    have hc := h.1.cat
    have e : (bif ab_wide v then i + 2 else i + 1) = (if x.category = 2 then i + 2 else i + 1) := by
      rw [hc]
      cases ab_wide v <;> rfl
    show ab_R2 b B n ρ ((i, v) :: ab_args as (bif ab_wide v then i + 2 else i + 1)) ((i, x) :: lv_args (if x.category = 2 then i + 2 else i + 1) As)
    rw [e]
    exact ⟨rfl, h.1, ab_args_R2 _ h.2⟩
  | [], _ :: _, _, h => h.elim
  | _ :: _, [], _, h => h.elim
theorem ab_wd_len {b B n : Nat} {ρ : Nat → Int} : ∀ {as : List ab_V} {As : List Value}, ab_RS b B n ρ as As → (lg_sl As).length = ab_wd as
  | [], [], _ => rfl
  | v :: as, x :: As, h => by
    have hc := h.1.cat
    have ih := ab_wd_len h.2
    show ((x :: As).flatMap fun v => if v.category = 2 then [Slot.val v, Slot.second] else [Slot.val v]).length = (bif ab_wide v then ab_wd as + 2 else ab_wd as + 1)
    rw [List.flatMap_cons, List.length_append, hc]
    have ih' : (As.flatMap fun v => if v.category = 2 then [Slot.val v, Slot.second] else [Slot.val v]).length = ab_wd as := ih
    rw [ih']
    cases ab_wide v
    · show 1 + _ = _ + 1
      omega
    · show 2 + _ = _ + 2
      omega
  | [], _ :: _, h => h.elim
  | _ :: _, [], h => h.elim
theorem ab_RS_rev {b B n : Nat} {ρ : Nat → Int} {S : List ab_V} {st : List Value} (h : ab_RS b B n ρ S st) : ab_RS b B n ρ S.reverse st.reverse := by
  induction S generalizing st with
  | nil => rw [h.nil]; exact trivial
  | cons v S ih =>
    obtain ⟨x, t, rfl, h1, h2⟩ := h.cons
    rw [List.reverse_cons, List.reverse_cons]
    exact (ih h2).app ⟨h1, trivial⟩
theorem ab_RS_split {b B n : Nat} {ρ : Nat → Int} : ∀ {S T : List ab_V} {st : List Value}, ab_RS b B n ρ (S ++ T) st → ∃ s t, st = s ++ t ∧ ab_RS b B n ρ S s ∧ ab_RS b B n ρ T t
  | [], T, st, h => ⟨[], st, rfl, trivial, h⟩
  | v :: S, T, st, h => by
    obtain ⟨x, t, rfl, h1, h2⟩ := ab_RS.cons (S := S ++ T) h
    obtain ⟨s, t', rfl, h3, h4⟩ := ab_RS_split h2
    exact ⟨x :: s, t', rfl, ⟨h1, h3⟩, h4⟩
theorem ab_rst_ok {n : Nat} {f : List ab_V → List ab_V → Bool} {S : List ab_V} (h : ab_rst S n f = true) : ∃ as S', S = as.reverse ++ S' ∧ as.length = n ∧ f as S' = true := by
  have go : ∀ (n : Nat) (a S : List ab_V), (Nat.rec (motive := fun _ => List ab_V → List ab_V → Bool) (fun a S => f a S) (fun _ r a S => List.casesOn S false (fun v T => r (v :: a) T)) n a S : Bool) = true → ∃ as S', S = as.reverse ++ S' ∧ as.length = n ∧ f (as ++ a) S' = true := by
    intro n
    induction n with
    | zero => intro a S h; exact ⟨[], S, rfl, rfl, h⟩
    | succ n ih =>
      intro a S h
      cases S with
      | nil => cases h
      | cons v T =>
        obtain ⟨as, S', e1, e2, e3⟩ := ih (v :: a) T h
        refine ⟨as ++ [v], S', ?_, by simp [e2], by rw [List.append_assoc]; exact e3⟩
        rw [List.reverse_append, e1]
        rfl
  obtain ⟨as, S', e1, e2, e3⟩ := go n [] S h
  rw [List.append_nil] at e3
  exact ⟨as, S', e1, e2, e3⟩
section CM
variable {Z : ab_ZT} {U : ab_UT} {F : ab_X} {l : Launch} {ρ : Nat → Int} {G : ab_G} {h : ab_H}
theorem ab_cws {y : Nat} {s : State} {args : Array Value} {p : Program} {e : Env} {m : MethodId} {below : List Frame} {meth : Method} {c : Code} {s₁ : State} {rm : Room} (B : BodyLoose p l (ab_zY Z y) (headSpec (ab_cw Z y :: ab_zTW Z) rm) (ab_zCB Z y) (ab_zML Z y) (ab_zRT Z y) e s m args below meth c s₁) : c.exceptionTable.toList = tableOf (ab_zHT Z y) := by
  have hw := atoms_spec (ws := ab_cw Z y :: ab_zTW Z) B.pre _ List.mem_cons_self
  unfold ab_cw at hw
  cases hh : ab_zHT Z y with
  | nil =>
    rw [hh] at hw
    obtain ⟨meth9, c9, h1, h2, -, -, -, -, h7, -⟩ := Cond.code_spec B.named hw
    cases Option.some.inj (h1.symm.trans B.method)
    cases Option.some.inj (h2.symm.trans (Stand.of_body B).code)
    rw [Array.isEmpty_iff.mp h7]
    rfl
  | cons q r =>
    rw [hh] at hw
    exact vx_table (x := ab_zY Z y) B hw
theorem ab_met (hGd : ab_Gd Z) (hih : ab_Ok Z U F) (hl : l.stackTraces = false) (hbB : U.2.2.1 < U.2.2.2) {y : Nat} (hM : ab_MK Z y) (hs : ab_Sat ρ G) {as : List ab_V} {As : List Value} (hAs : ab_rS U G.1 ρ as As) (hwd : ab_wd as ≤ ab_zML Z y) {kk : ab_K} (hkk : ∀ kd a S L G' h' cn sn, kk kd a S L G' h' cn sn = true → (kd = 0 ∨ kd = 1) ∧ cn ≤ (ab_zP Z y).2.1 ∧ sn ≤ (ab_zP Z y).2.2.1)
    (hF : F y [] true (ab_zP Z y).1 (ab_args as 0) [] G h 0 0 kk = true) : vx_Met l (ab_zY Z y) (ab_cw Z y :: ab_zTW Z) (ab_rmy Z y) (ab_Pc Z U As G.1 ρ h) (ab_Qc Z U G.1 ρ kk) (ab_XC Z U G.1 ρ kk) (ab_zP Z y).2.1 (ab_zP Z y).2.2.1 (ab_nA U) := by
  obtain ⟨m1, m2, m3, m4, m5, m6⟩ := hM
  have body : ∀ p e s m args below meth c s₁, BodyLoose p l (ab_zY Z y) (headSpec (ab_cw Z y :: ab_zTW Z) (ab_rmy Z y)) (ab_zCB Z y) (ab_zML Z y) (ab_zRT Z y) e s m args below meth c s₁ → c.maxLocals = ab_zML Z y → ab_Pc Z U As G.1 ρ h args s →
      W p l e (headSpec (ab_cw Z y :: ab_zTW Z) (ab_rmy Z y)).room s m args below meth c s.heap [] 0 0 (vx_MQ below (ab_Qc Z U G.1 ρ kk) (ab_XC Z U G.1 ρ kk) args s (ab_zP Z y).2.1 (ab_zP Z y).2.2.1 (ab_nA U)) (entryFrame m args (ab_zML Z y)) := by
    intro p e s m args below meth c s₁ B hml hP
    obtain ⟨rfl, hKH, hrH⟩ := hP
    have hws := atoms_spec (ws := ab_cw Z y :: ab_zTW Z) B.pre
    have hTW : ∀ w ∈ ab_zTW Z, w.before As.toArray s = true := fun w hw => hws w (List.mem_cons_of_mem _ hw)
    have htab := ab_cws B
    have hCx : ab_Cx Z U y (p, l, e, ab_rmy Z y, s, m, As.toArray, below, meth, c, vx_MQ below (ab_Qc Z U G.1 ρ kk) (ab_XC Z U G.1 ρ kk) As.toArray s (ab_zP Z y).2.1 (ab_zP Z y).2.2.1 (ab_nA U)) := by
      refine ⟨B.exec, B.bytes, hml, findClass_of_methodNamed B.named, (name_of_methodNamed B.named B.method).1, B.returns, B.notSynchronized, hTW, hKH, hl, ⟨rfl, rfl, rfl, rfl⟩, hbB, fun q x hx => ?_, fun pc e2 g hg => ?_⟩
      · have hx' : x ∈ c.exceptionTable.toList := hx
        rw [htab, m5.1 q] at hx'
        cases hx'
      · obtain ⟨pre, x, suf, name, p1, p2, p3, p4, p5, p6, p7⟩ := m5.2 pc e2 g hg
        refine ⟨pre, x, suf, name, htab.trans p1, fun z hz => ?_, p3, p4, hTW _ p5, va_Nw.use (hGd.2.2.1 _ p6) (hKH.2.1 _ p6), p7⟩
        rcases p2 z hz with q | ⟨q1, nm, q2, q3⟩
        · exact Or.inl q
        · exact Or.inr ⟨q1, nm, hTW _ q2, hKH.2.2.2.1 _ q3⟩
    have hHk : ab_Hk Z U y (p, l, e, ab_rmy Z y, s, m, As.toArray, below, meth, c, vx_MQ below (ab_Qc Z U G.1 ρ kk) (ab_XC Z U G.1 ρ kk) As.toArray s (ab_zP Z y).2.1 (ab_zP Z y).2.2.1 (ab_nA U)) G.1 ρ kk := by
      intro kd a S2 L2 G2 h2 cn2 sn2 ρ2 e1 e2 e3
      obtain ⟨kq, k1, k2⟩ := hkk _ _ _ _ _ _ _ _ e1
      rcases kq with rfl | rfl
      · intro ins pc H ls st locs hd hkr hH hS hV
        have hq : ∀ (v : Option Value), v.toList = st → ∀ t : State, t.heap = H → s.WarmedH t.vm → ab_Qc Z U G.1 ρ kk As.toArray s (.returned v) t := fun v hv t ht hW => ⟨v, rfl, a, S2, L2, G2, h2, cn2, sn2, ρ2, e1, e2, e3, by rw [hv]; exact hS, by rw [ht]; exact hH, hV.F ht⟩
        intro T hT Xs
        refine vx_ret (args := As.toArray) ?_ T hT (stand_widen Xs k1 k2)
        unfold ab_kr at hkr
        split at hkr
        · obtain ⟨r1, rfl⟩ := hkr
          exact W.vret B.exec B.bytes (B.returns.trans r1) (hq none rfl) hV.2.2 hd B.notSynchronized
        · rcases hkr with ⟨r1, v, rfl⟩ | ⟨r1, v, rfl, r2⟩
          · exact W.iret B.exec B.bytes (B.returns.trans r1) (hq (some (.int v)) rfl) hV.2.2 hd B.notSynchronized
          · exact W.zret B.exec B.bytes (B.returns.trans r1) r2 (hq (some (.int v)) rfl) hV.2.2 hd B.notSynchronized
        · obtain ⟨r1, v, rfl⟩ := hkr
          exact W.lret B.exec B.bytes (B.returns.trans r1) (hq (some (.long v)) rfl) hV.2.2 hd B.notSynchronized
        · obtain ⟨⟨rt, r1, r2⟩, v, rfl⟩ := hkr
          exact W.aret B.exec B.bytes (B.returns.trans r1) r2 (Or.inr ⟨v, rfl⟩) (hq (some (.ref v)) rfl) hV.2.2 hd B.notSynchronized
        · exact hkr.elim
      · intro hnil pc H ls st locs q ce hH hcell hv hcl hV
        refine vx_out (fun x hx => ?_) B.notSynchronized hcell hv hcl (fun t ht _ => ⟨a, S2, L2, G2, h2, cn2, sn2, ρ2, rfl, e1, e2, e3, by rw [ht]; exact hH, hV.F ht⟩) hV.2.2 k1 k2
        have hx' : x ∈ c.exceptionTable.toList := hx
        rw [htab, m5.1 hnil] at hx'
        cases hx'
    have go := hih y [] true (ab_zP Z y).1 (ab_args as 0) [] G h 0 0 kk hF ⟨0, rfl⟩ _ ρ hCx hs hHk 0 m6 s.heap ((lg_sl As ++ List.replicate (ab_zML Z y - (lg_sl As).length) Slot.unset).toArray) [] [] hrH ⟨_, lv_entry As (by rw [ab_wd_len hAs]; exact hwd), ab_args_R2 0 hAs⟩ trivial ⟨Nat.le_refl _, fun _ _ _ => rfl, fun q hq => nomatch hq⟩
    rw [lg_entry_eq]
    exact go
  refine MetFree.of_bodySF (code := ab_zCB Z y) (maxLocals := ab_zML Z y) (ret := ab_zRT Z y) m1 ?_ ?_
  · intro args s m h hn
    have hw := atoms_spec (ws := ab_cw Z y :: ab_zTW Z) h _ List.mem_cons_self
    unfold ab_cw at hw
    cases hh : ab_zHT Z y with
    | nil =>
      rw [hh] at hw
      obtain ⟨meth, c, h1, h2, h3, h4, h5, h6, -, -⟩ := Cond.code_spec hn hw
      exact ⟨meth, c, h1, h2, h3, h4, h5, h6⟩
    | cons q r =>
      rw [hh] at hw
      obtain ⟨m9, meth, c, hn9, h1, h2, h3, h4, -, h5, h6, -⟩ := Cond.codeWith_spec hw
      cases hn.symm.trans hn9
      exact ⟨meth, c, h1, h2, h3, h4, h5, h6⟩
  · intro p e s m args below meth c s₁ B hml hP _
    have hh0 : s₁.heap = s.heap := by rw [B.state]; rfl
    obtain ⟨t, a1, o, b1, b2, b3⟩ := body p e s m args below meth c s₁ B hml hP s₁ hh0 (Stand.of_body B)
    exact ⟨t, o, a1, b1, b2, b3⟩
end CM
