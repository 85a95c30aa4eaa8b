section
/-! ===== BEGIN words of one list among another's, by their places ===== -/
theorem goodIn_r {big : List Cond} (ws : List Cond) (ps : List Nat) (hp : ws = ps.filterMap (fun i => big[i]?)) (h : ws.all goodWord = true) : GoodIn big ws := by
  intro w hw
  have h1 := List.all_eq_true.mp h w hw
  rw [hp] at hw
  obtain ⟨i, -, hi⟩ := List.mem_filterMap.mp hw
  have hm : w ∈ big := by first | exact List.mem_of_getElem? hi | exact List.getElem?_mem hi
  exact ⟨hm, good_of_word h1⟩
theorem goodIn_app {big a b : List Cond} (ha : GoodIn big a) (hb : GoodIn big b) : GoodIn big (a ++ b) := fun w h => (List.mem_append.mp h).elim (ha w) (hb w)
theorem goodIn_ca {big a b : List Cond} {c : Cond} (ha : GoodIn big (c :: a)) (hb : GoodIn big b) : GoodIn big (c :: (a ++ b)) := fun w h => (List.mem_cons.mp h).elim (fun e => ha w (List.mem_cons.mpr (Or.inl e))) (fun h => (List.mem_append.mp h).elim (fun h => ha w (List.mem_cons.mpr (Or.inr h))) (hb w))
theorem goodIn_sub {big ws : List Cond} (hm : ∀ w ∈ ws, w ∈ big) (h : ws.all goodWord = true) : GoodIn big ws := fun w hw => ⟨hm w hw, good_of_word (List.all_eq_true.mp h w hw)⟩
/-! ===== END ===== -/
/-! ===== BEGIN exceptions that leave a method, and their catching by the caller (launches without stack traces) ===== -/
section VXA
/-! The laws vx_back, vx_callV, vx_callS, vx_callSW, vx_throw0, vx_throwS follow proofs of the library, with one case more: JvmDerived/Free/Laws.lean (Back.of_free), Shelf42/LK1.lean (callV, callS), Shelf/KitTraced.lean (throwNew0V, throwNewS). -/
/-- where a method has thrown q: the class by its name, the cell, what was written, the world -/
def vx_T (XC : String → State → State → Prop) (st : State) (q : Addr) (t : State) (mc ms : Nat) (free : Addr → Prop) : Prop :=
  ∃ (E : String) (ce : Cell) (L : List Loc), XC E st t ∧ t.heap[q]? = some ce ∧ ce.vm = .none ∧ st.vm.findClass E = some ce.cls ∧ st.WarmedH t.vm ∧ st.sameButNew ({ t with vm := st.vm } : State) L mc ms ∧ ∀ z ∈ L, free z.base
def vx_Q (Qc : Array Value → State → Outcome → State → Prop) (XC : String → State → State → Prop) (mc ms : Nat) (free : Addr → Prop) : Array Value → State → Outcome → State → Prop := fun a st o t =>
  (Qc a st o t ∧ ∃ L, FrameEnd st o t L mc ms ∧ ∀ q ∈ L, free q.base) ∨ ∃ q, o = .threw q ∧ vx_T XC st q t mc ms free
/-- a callee that returns or throws -/
def vx_Met (l : Launch) (y : MethodName) (ws : List Cond) (rm : Room) (Pc : Array Value → State → Prop) (Qc : Array Value → State → Outcome → State → Prop) (XC : String → State → State → Prop) (mc ms : Nat) (free : Addr → Prop) : Prop :=
  MetFree l y (headSpec ws rm) Pc (fun _ _ _ _ _ => True) (vx_Q Qc XC mc ms free)
def vx_Post (XC : String → State → State → Prop) (mc ms : Nat) (free : Addr → Prop) : Pt → Array Value → Addr → Pt → Prop := fun A a q B =>
  ∃ (g : JFrame) (mk : MethodId) (t : State) (L : List Loc) (E : String) (ce : Cell), B.U.heap = t.heap ∧ B.U.vm = t.vm ∧ XC E (A.U.calling g mk a) t ∧ t.heap[q]? = some ce ∧ ce.vm = .none ∧ A.U.vm.findClass E = some ce.cls ∧ B.locs = A.locs ++ L ∧ (∀ z ∈ L, free z.base) ∧ B.cells = A.cells + mc ∧ B.slots = A.slots + ms
def vx_Back (l : Launch) (R : Room) (p : Program) (e : Env) (below : List Frame) (s : State) (sargs : Array Value) (y : MethodName) (len W9 : Nat)
    (Pre : Pt → Array Value → Prop) (Post : Pt → Array Value → Option Value → Pt → Prop) (PostX : Pt → Array Value → Addr → Pt → Prop) : Prop :=
  ∀ (m : MethodId) (meth : Method) (c : Code) (A : Pt) (g : JFrame) (ig : Instr) (mk : MethodId) (a : Array Value),
    Stand p l e R s m sargs below meth c A.U A.locs A.cells A.slots → g.method = m → g.locals.size = c.maxLocals → decode c.code g.pc = .ok (ig, len) →
    2 * g.monitorRoom + (g.stack.map fun v => v.category).sum ≤ W9 → A.U.methodNamed? y = some mk → Pre A a →
    (∃ (v : Option Value) (B : Pt), Stand p l e R s m sargs below meth c B.U B.locs B.cells B.slots ∧ Post A a v B ∧
      Steps p.tables e below (doInvoke e (A.U.setTop g) [] mk a).1 (B.U.setTop { g with pc := g.pc + len, stack := v.toList ++ g.stack })) ∨
    (∃ (q : Addr) (B : Pt), Stand p l e R s m sargs below meth c B.U B.locs B.cells B.slots ∧ PostX A a q B ∧
      Steps p.tables e below (doInvoke e (A.U.setTop g) [] mk a).1 ((B.U.setTop g).pushFrame (.throwing q)))
section Payer
variable {l : Launch} {R : Room} {p : Program} {e : Env} {below : List Frame} {s : State} {sargs : Array Value} {y : MethodName} {len W9 : Nat}
theorem vx_back {ws : List Cond} {rm : Room} {Pc : Array Value → State → Prop} {Qc : Array Value → State → Outcome → State → Prop} {XC : String → State → State → Prop} {mc ms : Nat} {free : Addr → Prop} {bytes : ByteArray} {maxL : Nat} {ret : Option FieldType}
    (hM : vx_Met l y ws rm Pc Qc XC mc ms free) (hblind : FrameBlind Pc) (hrc : rm.cells = mc) (hrs : rm.slots = ms)
    (hframes : rm.frames + 1 ≤ R.frames) (hlocals : W9 + (maxL + 11) + rm.locals ≤ R.locals)
    (hws : ∀ w ∈ ws, ∀ a' U, s.WarmedH U.vm → w.before a' U = true) (hcode : Cond.code y bytes maxL ret ∈ ws) (hinit : ∀ a' U, s.WarmedH U.vm → (Cond.initialized y.cls).before a' U = true) :
    vx_Back l R p e below s sargs y len W9 (PreOf R mc ms Pc) (PostOf Qc mc ms free) (vx_Post XC mc ms free) := by
  intro m meth c A g ig mk a X hg hsize hdg hW hn hp
  have h1 : (headSpec ws rm).pre.before a A.U = true := atoms_intro fun w hw => hws w hw _ _ X.warmed
  have h2 : (Cond.code y bytes maxL ret).before a A.U = true := hws _ hcode _ _ X.warmed
  have h3 : (Cond.initialized y.cls).before a A.U = true := hinit _ _ X.warmed
  have h4 : A.cells + (headSpec ws rm).room.cells ≤ R.cells := by rw [show (headSpec ws rm).room.cells = mc from hrc]; exact hp.1
  have h5 : A.slots + (headSpec ws rm).room.slots ≤ R.slots := by rw [show (headSpec ws rm).room.slots = ms from hrs]; exact hp.2.1
  have hPc : Pc a (A.U.calling g mk a) := hblind _ _ _ _ hp.2.2
  obtain ⟨U, Ls, c0, s0⟩ := A
  dsimp only [Pt.U, Pt.locs, Pt.cells, Pt.slots] at h1 h2 h3 h4 h5 X hn hPc ⊢
  obtain ⟨methY, cY, hmY, hcY, -, hlY, -, -, -, -⟩ := Cond.code_spec hn h2
  obtain ⟨kY, hkY, -⟩ := className_of_methodNamed hn
  have hinitY : kY.init = .initialized := Cond.initialized_spec (findClass_of_methodNamed hn) hkY h3
  have h : At U g.method c below := by rw [hg]; exact X.here
  have hlocals9 : W9 + (maxL + 11) + (headSpec ws rm).room.locals ≤ R.locals := hlocals
  have happ : (headSpec ws rm).appliesLoose y e.platform (U.calling g mk a) = true :=
    Spec.appliesLoose_calling (g := g) h hdg hn hkY hinitY
      (X.room_calling (g := g) (R' := (headSpec ws rm).room) hsize hmY hcY hframes (by rw [hlY]; omega) h4 h5) h1
  obtain ⟨mid, hmid⟩ := h.above
  have hfr : (U.setTop g).frames = (.java g :: mid) ++ below := by rw [State.frames_setTop' g h.top, hmid]; rfl
  obtain ⟨o, s₂, hsteps, -, hend, hq⟩ := Steps.callFree hM p X.admits X.cas X.clock (acts := []) hfr happ hPc trivial
  have hq' : vx_Q Qc XC mc ms free a (U.calling g mk a) o s₂ := hq
  rw [State.frames_setTop' g h.top] at hend
  obtain ⟨g₀, hg0⟩ := Option.isSome_iff_exists.mp h.top
  obtain ⟨r, hr⟩ := State.topJava?_eq_some.mp hg0
  have hr' : (({ U with heap := s₂.heap, slotsUsed := s₂.slotsUsed } : State).setVm s₂.vm).frames = .java g₀ :: r := hr
  rcases hq' with ⟨hqc, L, hfe, hL⟩ | ⟨q, rfl, E, ce, L, hx, hce, hcv, hcl, hW₂, hsm, hL⟩
  · obtain ⟨⟨v, rfl⟩, hW₂, e2, q2, q3, q4, q5, q6⟩ := id hfe
    have e3 : s₂ = ({ (U.calling g mk a).setFrames s₂.frames with heap := s₂.heap, slotsUsed := s₂.slotsUsed } : State).setVm s₂.vm := by
      have : s₂ = ({ s₂ with vm := (U.calling g mk a).vm } : State).setVm s₂.vm := rfl
      rw [e2] at this
      exact this
    obtain ⟨c₂, i₂, len₂, hc₂, hd₂, hf₂⟩ := hend
    have hW' : U.WarmedH s₂.vm := hW₂
    have hcc : c₂ = c := by
      have h1 : s₂.code? g.method = U.code? g.method := by
        rw [State.code?_eq, State.code?_eq, hW'.alike.method?]
      exact Option.some.inj (hc₂.symm.trans (h1.trans h.code))
    subst hcc
    have hlen : len₂ = len := by rw [hdg] at hd₂; cases hd₂; rfl
    subst hlen
    have hs₂ : s₂ = (({ U with heap := s₂.heap, slotsUsed := s₂.slotsUsed } : State).setVm s₂.vm).setTop { g with pc := g.pc + len₂, stack := v.toList ++ g.stack } := by
      refine e3.trans ?_
      rw [hf₂, State.calling_eq h.top, State.setFrames_setFrames, State.setTop_of_frames _ hr', hr]
      rfl
    have hsame : U.sameButNew ({ U with heap := s₂.heap, slotsUsed := s₂.slotsUsed } : State) L mc ms := by
      refine ⟨?_, q2, q3, q4, q5, q6⟩
      obtain ⟨t, ht, -⟩ := State.frames_cons hr
      show ({ U with heap := s₂.heap, slotsUsed := s₂.slotsUsed } : State) = { U.setFrames U.frames with heap := s₂.heap, slotsUsed := s₂.slotsUsed }
      rw [State.setFrames_self ht]
    subst hg
    refine Or.inl ⟨v, ⟨(({ U with heap := s₂.heap, slotsUsed := s₂.slotsUsed } : State).setVm s₂.vm), Ls ++ L, c0 + mc, s0 + ms⟩,
      ⟨X.admits, X.cas, X.clock, X.frames, X.room, X.hears, X.method, X.code, (X.here.setHeapUsed s₂.heap s₂.slotsUsed).setVm hW'.alike, X.tail, State.WarmedH.trans X.warmed hW', X.limits, X.bytes, X.same.trans (hsame.setVm s.vm)⟩,
      ⟨g, mk, s₂, L, rfl, rfl, hqc, rfl, hL, rfl, rfl⟩, ?_⟩
    show Steps p.tables e below _ ((({ U with heap := s₂.heap, slotsUsed := s₂.slotsUsed } : State).setVm s₂.vm).setTop { g with pc := g.pc + len₂, stack := v.toList ++ g.stack })
    rw [← hs₂]
    exact hsteps
  · obtain ⟨e2, q2, q3, q4, q5, q6⟩ := id hsm
    have e3 : s₂ = ({ (U.calling g mk a).setFrames s₂.frames with heap := s₂.heap, slotsUsed := s₂.slotsUsed } : State).setVm s₂.vm := by
      have : s₂ = ({ s₂ with vm := (U.calling g mk a).vm } : State).setVm s₂.vm := rfl
      rw [e2] at this
      exact this
    have hf₂ : s₂.frames = .throwing q :: .java g :: U.frames.tail := hend
    have hW' : U.WarmedH s₂.vm := hW₂
    have hs₂ : s₂ = ((({ U with heap := s₂.heap, slotsUsed := s₂.slotsUsed } : State).setVm s₂.vm).setTop g).pushFrame (.throwing q) := by
      refine e3.trans ?_
      rw [hf₂, State.calling_eq h.top, State.setFrames_setFrames, State.pushFrame, State.frames_setTop _ hr', State.setTop_of_frames _ hr', State.setFrames_setFrames, hr]
      rfl
    have hsame : U.sameButNew ({ U with heap := s₂.heap, slotsUsed := s₂.slotsUsed } : State) L mc ms := by
      refine ⟨?_, q2, q3, q4, q5, q6⟩
      obtain ⟨t, ht, -⟩ := State.frames_cons hr
      show ({ U with heap := s₂.heap, slotsUsed := s₂.slotsUsed } : State) = { U.setFrames U.frames with heap := s₂.heap, slotsUsed := s₂.slotsUsed }
      rw [State.setFrames_self ht]
    subst hg
    refine Or.inr ⟨q, ⟨(({ U with heap := s₂.heap, slotsUsed := s₂.slotsUsed } : State).setVm s₂.vm), Ls ++ L, c0 + mc, s0 + ms⟩,
      ⟨X.admits, X.cas, X.clock, X.frames, X.room, X.hears, X.method, X.code, (X.here.setHeapUsed s₂.heap s₂.slotsUsed).setVm hW'.alike, X.tail, State.WarmedH.trans X.warmed hW', X.limits, X.bytes, X.same.trans (hsame.setVm s.vm)⟩,
      ⟨g, mk, s₂, L, E, ce, rfl, rfl, hx, hce, hcv, hcl, rfl, hL, rfl, rfl⟩, ?_⟩
    show Steps p.tables e below _ (((({ U with heap := s₂.heap, slotsUsed := s₂.slotsUsed } : State).setVm s₂.vm).setTop g).pushFrame (.throwing q))
    rw [← hs₂]
    exact hsteps
end Payer
section Calls
variable {p : Program} {l : Launch} {e : Env} {R : Room} {s : State} {m : MethodId} {args : Array Value} {below : List Frame} {meth : Method} {c : Code} {T : State} {locs : List Loc} {cells slots : Nat}
theorem vx_callV (X : Stand p l e R s m args below meth c T locs cells slots) (hexec : p.tables.exec = Jvm.exec) {own C : String} {index : Nat} {y : MethodName} {bytes : ByteArray} {maxL : Nat} {ret : Option FieldType}
    (hown : s.vm.findClass own = some m.cls) (hlink : (Cond.methodLink own index y).before args s = true) (hinst : (Cond.instanceMethod y).before args s = true) (hsel : (Cond.selects C y y).before args s = true)
    (hcode : (Cond.code y bytes maxL ret).before args s = true) (hy : y.cls ≠ "java/lang/invoke/MethodHandle" ∧ y.cls ≠ "java/lang/invoke/VarHandle")
    {W9 : Nat} {Pre : Pt → Array Value → Prop} {Post : Pt → Array Value → Option Value → Pt → Prop} {PostX : Pt → Array Value → Addr → Pt → Prop} (hK : vx_Back l R p e below s args y 3 W9 Pre Post PostX)
    {b : Addr} {cellB : Cell} (hcell : T.heap[b]? = some cellB) (hobj : cellB.vm.isStatics = false) (hcls : s.vm.findClass C = some cellB.cls)
    {g : JFrame} (hg : g.method = m) (hsize : g.locals.size = c.maxLocals) {argsL rest : List Value} (hlen : ∀ sig, parseMethodDescriptor y.desc = some sig → argsL.length = sig.parameters.length)
    (hstack : g.stack = argsL.reverse ++ .ref b :: rest) (hW : 2 * g.monitorRoom + (rest.map fun v => v.category).sum ≤ W9) (hdg : decode c.code g.pc = .ok (.invokevirtual index, 3))
    (hpre : ∀ vm₁, s.WarmedH vm₁ → Pre ⟨T.setVm vm₁, locs, cells, slots⟩ (Value.ref b :: argsL).toArray) :
    (∃ (v : Option Value) (vm₁ : Vm) (B : Pt), s.WarmedH vm₁ ∧ Stand p l e R s m args below meth c B.U B.locs B.cells B.slots ∧ Post ⟨T.setVm vm₁, locs, cells, slots⟩ (Value.ref b :: argsL).toArray v B ∧
      ∀ target, Steps p.tables e below (B.U.setTop { g with pc := g.pc + 3, stack := v.toList ++ rest }) target → Steps p.tables e below (T.setTop g) target) ∨
    (∃ (q : Addr) (vm₁ : Vm) (B : Pt), s.WarmedH vm₁ ∧ Stand p l e R s m args below meth c B.U B.locs B.cells B.slots ∧ PostX ⟨T.setVm vm₁, locs, cells, slots⟩ (Value.ref b :: argsL).toArray q B ∧
      Steps p.tables e below (T.setTop g) ((B.U.setTop { g with stack := rest }).pushFrame (.throwing q))) := by
  obtain ⟨mk, methM, hnamed, hmethM, hstM, habM⟩ := Cond.instanceMethod_spec hinst
  obtain ⟨methM', cM, hmethM', -, -, -, -, -, -, hsigM⟩ := Cond.code_spec hnamed hcode
  cases hmethM.symm.trans hmethM'
  obtain ⟨c2, r2, m2, q1, q2, q3, q4, kP, hkP, hkPi⟩ := Cond.selects_spec hsel
  cases hcls.symm.trans q1
  cases (State.methodFound?_of_named hnamed hy).symm.trans q2
  cases hnamed.symm.trans q3
  have hselP : selectMethod e.platform s.vm cellB.cls mk = .method mk := by rw [Launch.admits_selectMethod X.admits]; exact q4
  obtain ⟨vm₁, X₁, hstep₁⟩ := X.invokevirtual hexec hown hlink hnamed hmethM hstM hkP hkPi hy (a := b) (cell := cellB) hcell
    (fun z h => by rw [h] at hobj; cases hobj) hselP hmethM habM hkP hkPi (g := g) hg (argsL := argsL) (rest := rest) (hlen _ hsigM) hstack hdg
  rcases hK m meth c ⟨T.setVm vm₁, locs, cells, slots⟩ { g with stack := rest } (.invokevirtual index) mk (Value.ref b :: argsL).toArray X₁ hg hsize hdg hW (X₁.named hnamed) (hpre vm₁ X₁.warmed) with ⟨v, B, X', hpost, hsteps⟩ | ⟨q, B, X', hpost, hsteps⟩
  · exact Or.inl ⟨v, vm₁, B, X₁.warmed, X', hpost, fun target h => hstep₁ _ fun acts => by rw [doInvoke_state]; exact hsteps.trans h⟩
  · exact Or.inr ⟨q, vm₁, B, X₁.warmed, X', hpost, hstep₁ _ fun acts => by rw [doInvoke_state]; exact hsteps⟩
theorem vx_callS (X : Stand p l e R s m args below meth c T locs cells slots) (hexec : p.tables.exec = Jvm.exec) {own : String} {index : Nat} {y : MethodName} {bytes : ByteArray} {maxL : Nat} {ret : Option FieldType}
    (hown : s.vm.findClass own = some m.cls) (hlink : (Cond.methodLink own index y).before args s = true) (hstat : (Cond.static y).before args s = true) (hinit : (Cond.initialized y.cls).before args s = true)
    (hcode : (Cond.code y bytes maxL ret).before args s = true) (hy : y.cls ≠ "java/lang/invoke/MethodHandle" ∧ y.cls ≠ "java/lang/invoke/VarHandle")
    {W9 : Nat} {Pre : Pt → Array Value → Prop} {Post : Pt → Array Value → Option Value → Pt → Prop} {PostX : Pt → Array Value → Addr → Pt → Prop} (hK : vx_Back l R p e below s args y 3 W9 Pre Post PostX)
    {g : JFrame} (hg : g.method = m) (hsize : g.locals.size = c.maxLocals) {argsL rest : List Value} (hlen : ∀ sig, parseMethodDescriptor y.desc = some sig → argsL.length = sig.parameters.length)
    (hstack : g.stack = argsL.reverse ++ rest) (hW : 2 * g.monitorRoom + (rest.map fun v => v.category).sum ≤ W9) (hdg : decode c.code g.pc = .ok (.invokestatic index, 3))
    (hpre : ∀ vm₁, s.WarmedH vm₁ → Pre ⟨T.setVm vm₁, locs, cells, slots⟩ argsL.toArray) :
    (∃ (v : Option Value) (vm₁ : Vm) (B : Pt), s.WarmedH vm₁ ∧ Stand p l e R s m args below meth c B.U B.locs B.cells B.slots ∧ Post ⟨T.setVm vm₁, locs, cells, slots⟩ argsL.toArray v B ∧
      ∀ target, Steps p.tables e below (B.U.setTop { g with pc := g.pc + 3, stack := v.toList ++ rest }) target → Steps p.tables e below (T.setTop g) target) ∨
    (∃ (q : Addr) (vm₁ : Vm) (B : Pt), s.WarmedH vm₁ ∧ Stand p l e R s m args below meth c B.U B.locs B.cells B.slots ∧ PostX ⟨T.setVm vm₁, locs, cells, slots⟩ argsL.toArray q B ∧
      Steps p.tables e below (T.setTop g) ((B.U.setTop { g with stack := rest }).pushFrame (.throwing q))) := by
  obtain ⟨mk, hnamed⟩ := Cond.code_named hcode
  obtain ⟨methM, cM, hmethM, -, -, -, -, -, -, hsigM⟩ := Cond.code_spec hnamed hcode
  have hstatic : methM.isStatic = true := Cond.static_spec hnamed hmethM hstat
  obtain ⟨kP, hkP, -⟩ := className_of_methodNamed hnamed
  have hinitP : kP.init = .initialized := Cond.initialized_spec (findClass_of_methodNamed hnamed) hkP hinit
  obtain ⟨vm₁, X₁, hstep₁⟩ := X.invokestatic hexec hown hlink hnamed hmethM hstatic hkP hinitP hy (g := g) hg (argsL := argsL) (rest := rest) (hlen _ hsigM) hstack hdg
  rcases hK m meth c ⟨T.setVm vm₁, locs, cells, slots⟩ { g with stack := rest } (.invokestatic index) mk argsL.toArray X₁ hg hsize hdg hW (X₁.named hnamed) (hpre vm₁ X₁.warmed) with ⟨v, B, X', hpost, hsteps⟩ | ⟨q, B, X', hpost, hsteps⟩
  · exact Or.inl ⟨v, vm₁, B, X₁.warmed, X', hpost, fun target h => hstep₁ _ fun acts => by rw [doInvoke_state]; exact hsteps.trans h⟩
  · exact Or.inr ⟨q, vm₁, B, X₁.warmed, X', hpost, hstep₁ _ fun acts => by rw [doInvoke_state]; exact hsteps⟩
end Calls
theorem vx_cls {s : State} {T : State} {vm₁ : Vm} {E : String} {k : ClassId} (hW : s.WarmedH vm₁) (h : (T.setVm vm₁).vm.findClass E = some k) : s.vm.findClass E = some k := by
  have h1 : vm₁.findClass E = some k := h
  rw [hW.alike.findClass] at h1
  exact h1
/-- the method's frame g, with q thrown over it -/
def vx_W (p : Program) (l : Launch) (e : Env) (R : Room) (s : State) (m : MethodId) (args : Array Value) (below : List Frame) (meth : Method) (c : Code) (H : Heap) (locs : List Loc) (cells slots : Nat) (Q : State → Prop) (g : JFrame) (q : Addr) : Prop :=
  ∀ T : State, T.heap = H → Stand p l e R s m args below meth c T locs cells slots → ∃ t, Steps p.tables e below ((T.setTop g).pushFrame (.throwing q)) t ∧ Q t
def vx_Run (p : Program) (l : Launch) (e : Env) (R : Room) (s : State) (m : MethodId) (args : Array Value) (below : List Frame) (meth : Method) (c : Code) (H : Heap) (locs : List Loc) (cells slots mc ms : Nat) (g : JFrame) (rest : List Value) (Qa : State → Outcome → State → Prop) (XC : String → State → State → Prop) (free : Addr → Prop) : Prop :=
  ∀ T : State, T.heap = H → Stand p l e R s m args below meth c T locs cells slots →
    (∃ (v : Option Value) (st₀ t T' : State) (L : List Loc), st₀.heap = H ∧ Stand p l e R s m args below meth c T' (locs ++ L) (cells + mc) (slots + ms) ∧ (∀ q ∈ L, free q.base) ∧ T'.heap = t.heap ∧ T'.vm = t.vm ∧ Qa st₀ (.returned v) t ∧
      Goes p e below T g T' { g with pc := g.pc + 3, stack := v.toList ++ rest }) ∨
    (∃ (q : Addr) (st₀ t T' : State) (L : List Loc) (E : String) (ce : Cell), st₀.heap = H ∧ Stand p l e R s m args below meth c T' (locs ++ L) (cells + mc) (slots + ms) ∧ (∀ z ∈ L, free z.base) ∧ T'.heap = t.heap ∧ T'.vm = t.vm ∧ XC E st₀ t ∧ t.heap[q]? = some ce ∧ ce.vm = .none ∧ s.vm.findClass E = some ce.cls ∧
      Steps p.tables e below (T.setTop g) ((T'.setTop { g with stack := rest }).pushFrame (.throwing q)))
def vx_X {S : Type} (px : S → Prop) (B : String → S → State → Prop) (A : Nat → Prop) : String → State → State → Prop := fun E st t => ∃ u : S, px u ∧ B E u t ∧ va_F A st t
section Runs
variable {p : Program} {l : Launch} {e : Env} {R : Room} {s : State} {m : MethodId} {args : Array Value} {below : List Frame} {meth : Method} {c : Code} {H : Heap} {locs : List Loc} {cells slots : Nat}
variable {y : MethodName} {bytes cc : ByteArray} {maxL nL mc ms n index : Nat} {ret : Option FieldType} {ws : List Cond} {rm : Room} {Pc : Array Value → State → Prop} {Qc : Array Value → State → Outcome → State → Prop} {XC : String → State → State → Prop} {free : Addr → Prop} {Ts : List Cond} {own C : String} {b : Addr} {As rest : List Value} {g : JFrame}
theorem vx_callBack (cb : CallB R s args own index y bytes maxL ret ws rm mc ms n) (hM : vx_Met l y ws rm Pc Qc XC mc ms free) (hbl : FrameBlind Pc) : vx_Back l R p e below s args y 3 8 (PreOf R mc ms Pc) (PostOf Qc mc ms free) (vx_Post XC mc ms free) := by
  obtain ⟨hrc, hrs, hfr, hlo, hws, hcw, -, hini, -⟩ := cb
  exact vx_back (bytes := bytes) (maxL := maxL) (ret := ret) hM hbl hrc hrs hfr hlo hws hcw (fun a' U hW => word_at hW (Or.inl (by first | rfl | simp [Cond.onTables, Cond.keeps, Cond.steady])) hini)
theorem vx_runV (S : CallFix p m c cc nL s args Ts own) (hM : vx_Met l y ws rm Pc Qc XC mc ms free) (cw : CallW R s args own C index y bytes maxL ret ws rm mc ms n) (hp : PreV s H C b Pc As)
    (hg : g.method = m) (hn : As.length = n) (hsize : g.locals.size = nL) (hstack : g.stack = As.reverse ++ .ref b :: rest) (hW : 2 * g.monitorRoom + (rest.map fun v => v.category).sum ≤ 8) (hdg : decode cc g.pc = .ok (.invokevirtual index, 3)) (hf : cells + mc ≤ R.cells ∧ slots + ms ≤ R.slots) :
    vx_Run p l e R s m args below meth c H locs cells slots mc ms g rest (Qc (Value.ref b :: As).toArray) XC free := by
  have hK : vx_Back l R p e below s args y 3 8 (PreOf R mc ms Pc) (PostOf Qc mc ms free) (vx_Post XC mc ms free) := vx_callBack cw.1 hM hp.1
  obtain ⟨⟨-, -, -, -, -, -, hcode, -, hy, hlen, hl⟩, hin, hse⟩ := cw
  obtain ⟨hx, hb, hml, ho, -⟩ := S
  obtain ⟨-, ⟨cellB, hcB, hoB, hclB⟩, hPc⟩ := hp
  intro T hT X
  rcases vx_callV X hx (C := C) (bytes := bytes) (maxL := maxL) (ret := ret) ho hl hin hse hcode hy hK (by rw [hT]; exact hcB) hoB hclB hg (hsize.trans hml.symm) (argsL := As) (rest := rest) (fun sig h => hn.trans (hlen sig h)) hstack hW (by rw [hb]; exact hdg)
    (fun vm₁ hW₁ => ⟨hf.1, hf.2, hPc (T.setVm vm₁) hT hW₁⟩) with ⟨v, vm₁, ⟨U', l2, c2, s2⟩, hW₁, X', ⟨g', mk, t, L, e1, e2, hq, h1, hL, h2, h3⟩, st⟩ | ⟨q, vm₁, ⟨U', l2, c2, s2⟩, hW₁, X', ⟨g', mk, t, L, E, ce, e1, e2, hq, hce, hcv, hcl, h1, hL, h2, h3⟩, st⟩
  · dsimp only [Pt.U, Pt.locs, Pt.cells, Pt.slots] at X' e1 e2 h1 h2 h3 st
    subst h1; subst h2; subst h3
    exact Or.inl ⟨v, (T.setVm vm₁).calling g' mk (Value.ref b :: As).toArray, t, U', L, hT, X', hL, e1, e2, hq, st⟩
  · dsimp only [Pt.U, Pt.locs, Pt.cells, Pt.slots] at X' e1 e2 h1 h2 h3 st hcl
    subst h1; subst h2; subst h3
    exact Or.inr ⟨q, (T.setVm vm₁).calling g' mk (Value.ref b :: As).toArray, t, U', L, E, ce, hT, X', hL, e1, e2, hq, hce, hcv, vx_cls hW₁ hcl, st⟩
theorem vx_runS (S : CallFix p m c cc nL s args Ts own) (hM : vx_Met l y ws rm Pc Qc XC mc ms free) (cw : CallB R s args own index y bytes maxL ret ws rm mc ms n ∧ (Cond.static y).before args s = true) (hp : PreS s H Pc As)
    (hg : g.method = m) (hn : As.length = n) (hsize : g.locals.size = nL) (hstack : g.stack = As.reverse ++ rest) (hW : 2 * g.monitorRoom + (rest.map fun v => v.category).sum ≤ 8) (hdg : decode cc g.pc = .ok (.invokestatic index, 3)) (hf : cells + mc ≤ R.cells ∧ slots + ms ≤ R.slots) :
    vx_Run p l e R s m args below meth c H locs cells slots mc ms g rest (Qc As.toArray) XC free := by
  have hK : vx_Back l R p e below s args y 3 8 (PreOf R mc ms Pc) (PostOf Qc mc ms free) (vx_Post XC mc ms free) := vx_callBack cw.1 hM hp.1
  obtain ⟨⟨-, -, -, -, -, -, hcode, hini, hy, hlen, hl⟩, hstt⟩ := cw
  obtain ⟨hx, hb, hml, ho, -⟩ := S
  intro T hT X
  rcases vx_callS X hx (bytes := bytes) (maxL := maxL) (ret := ret) ho hl hstt hini hcode hy hK hg (hsize.trans hml.symm) (argsL := As) (rest := rest) (fun sig h => hn.trans (hlen sig h)) hstack hW (by rw [hb]; exact hdg)
    (fun vm₁ hW₁ => ⟨hf.1, hf.2, hp.2 (T.setVm vm₁) hT hW₁⟩) with ⟨v, vm₁, ⟨U', l2, c2, s2⟩, hW₁, X', ⟨g', mk, t, L, e1, e2, hq, h1, hL, h2, h3⟩, st⟩ | ⟨q, vm₁, ⟨U', l2, c2, s2⟩, hW₁, X', ⟨g', mk, t, L, E, ce, e1, e2, hq, hce, hcv, hcl, h1, hL, h2, h3⟩, st⟩
  · dsimp only [Pt.U, Pt.locs, Pt.cells, Pt.slots] at X' e1 e2 h1 h2 h3 st
    subst h1; subst h2; subst h3
    exact Or.inl ⟨v, (T.setVm vm₁).calling g' mk As.toArray, t, U', L, hT, X', hL, e1, e2, hq, st⟩
  · dsimp only [Pt.U, Pt.locs, Pt.cells, Pt.slots] at X' e1 e2 h1 h2 h3 st hcl
    subst h1; subst h2; subst h3
    exact Or.inr ⟨q, (T.setVm vm₁).calling g' mk As.toArray, t, U', L, E, ce, hT, X', hL, e1, e2, hq, hce, hcv, vx_cls hW₁ hcl, st⟩
end Runs
section Rows
variable {p : Program} {l : Launch} {e : Env} {R : Room} {s : State} {m : MethodId} {args : Array Value} {below : List Frame} {meth : Method} {c : Code} {H : Heap} {locs : List Loc} {cells slots : Nat} {Q : State → Prop}
variable {mc ms : Nat} {free : Addr → Prop} {A0 A1 : Nat → Prop} {H0 : Heap} {a : Array Value} {pc : Nat} {ls : Array Slot} {st0 rest : List Value}
theorem vx_keep {st₀ t T' : State} {L : List Loc} (h0 : st₀.heap = H) (e1 : T'.heap = t.heap) (hS : va_S A0 H0 H locs) (hA : ∀ q, q < H.size → A1 q → A0 q) (hf : ∀ q, free q → A0 q) (hL : ∀ q ∈ L, free q.base) (hF : va_F A1 st₀ t) :
    H.size ≤ T'.heap.size ∧ (∀ q : Nat, q < H.size → ¬ A1 q → T'.heap[q]? = H[q]?) ∧ va_S A0 H0 T'.heap (locs ++ L) := by
  obtain ⟨hz, hk⟩ := hF
  rw [h0] at hz hk
  exact ⟨by rw [e1]; exact hz, fun q h1 h2 => by rw [e1]; exact hk q h1 h2,
    ⟨Nat.le_trans hS.1 (by rw [e1]; exact hz), fun q h1 h2 => by rw [e1, hk q (Nat.lt_of_lt_of_le h1 hS.1) (fun z => h2 (hA q (Nat.lt_of_lt_of_le h1 hS.1) z))]; exact hS.2.1 q h1 h2, fun q hq => by
      rcases List.mem_append.mp hq with h | h
      · exact hS.2.2 q h
      · exact hf _ (hL q h)⟩⟩
theorem vx_calli {S SX : Type} {post : Int32 → S → Prop} {px : SX → Prop} {B : S → State → Prop} {BX : String → SX → State → Prop} {AX : Nat → Prop} (hr : vx_Run p l e R s m args below meth c H locs cells slots mc ms (F0 m pc ls st0) rest (va_Qi post B A1 a) (vx_X px BX AX) free) (hS : va_S A0 H0 H locs) (hA : ∀ q, q < H.size → A1 q → A0 q) (hf : ∀ q, free q → A0 q) (hAX : ∀ q, q < H.size → AX q → A0 q)
    (kx : ∀ (E : String) (ce : Cell) (q9 : Addr) (u : SX) (t : State) (H1 : Heap) (locs1 : List Loc), t.heap = H1 → s.vm.Alike t.vm → px u → BX E u t → H.size ≤ H1.size → (∀ q : Nat, q < H.size → ¬ AX q → H1[q]? = H[q]?) → va_S A0 H0 H1 locs1 → H1[q9]? = some ce → ce.vm = .none → s.vm.findClass E = some ce.cls → vx_W p l e R s m args below meth c H1 locs1 (cells + mc) (slots + ms) Q (F0 m pc ls rest) q9)
    (kk : ∀ (r : Int32) (u : S) (t : State) (H1 : Heap) (locs1 : List Loc), t.heap = H1 → s.vm.Alike t.vm → post r u → B u t → H.size ≤ H1.size → (∀ q : Nat, q < H.size → ¬ A1 q → H1[q]? = H[q]?) → va_S A0 H0 H1 locs1 → W p l e R s m args below meth c H1 locs1 (cells + mc) (slots + ms) Q (F0 m (pc + 3) ls (.int r :: rest))) : W p l e R s m args below meth c H locs cells slots Q (F0 m pc ls st0) := by
  intro T hT X
  rcases hr T hT X with ⟨v, st₀, t, T', L, h0, X', hL, e1, e2, ⟨⟨r, u, hv, hp, hb⟩, hF⟩, st⟩ | ⟨q, st₀, t, T', L, E, ce, h0, X', hL, e1, e2, ⟨u, hp, hb, hF⟩, hce, hcv, hcl, st⟩
  · cases hv
    obtain ⟨k1, k2, k3⟩ := vx_keep h0 e1 hS hA hf hL hF
    obtain ⟨t2, a1, b1⟩ := kk r u t T'.heap (locs ++ L) e1.symm (by rw [← e2]; exact X'.warmed.alike) hp hb k1 k2 k3 T' rfl X'
    exact ⟨t2, st t2 a1, b1⟩
  · obtain ⟨k1, k2, k3⟩ := vx_keep h0 e1 hS hAX hf hL hF
    obtain ⟨t2, a1, b1⟩ := kx E ce q u t T'.heap (locs ++ L) e1.symm (by rw [← e2]; exact X'.warmed.alike) hp hb k1 k2 k3 (by rw [e1]; exact hce) hcv hcl T' rfl X'
    exact ⟨t2, st.trans a1, b1⟩
theorem vx_calll {S SX : Type} {post : Int64 → S → Prop} {px : SX → Prop} {B : S → State → Prop} {BX : String → SX → State → Prop} {AX : Nat → Prop} (hr : vx_Run p l e R s m args below meth c H locs cells slots mc ms (F0 m pc ls st0) rest (va_Ql post B A1 a) (vx_X px BX AX) free) (hS : va_S A0 H0 H locs) (hA : ∀ q, q < H.size → A1 q → A0 q) (hf : ∀ q, free q → A0 q) (hAX : ∀ q, q < H.size → AX q → A0 q)
    (kx : ∀ (E : String) (ce : Cell) (q9 : Addr) (u : SX) (t : State) (H1 : Heap) (locs1 : List Loc), t.heap = H1 → s.vm.Alike t.vm → px u → BX E u t → H.size ≤ H1.size → (∀ q : Nat, q < H.size → ¬ AX q → H1[q]? = H[q]?) → va_S A0 H0 H1 locs1 → H1[q9]? = some ce → ce.vm = .none → s.vm.findClass E = some ce.cls → vx_W p l e R s m args below meth c H1 locs1 (cells + mc) (slots + ms) Q (F0 m pc ls rest) q9)
    (kk : ∀ (r : Int64) (u : S) (t : State) (H1 : Heap) (locs1 : List Loc), t.heap = H1 → s.vm.Alike t.vm → post r u → B u t → H.size ≤ H1.size → (∀ q : Nat, q < H.size → ¬ A1 q → H1[q]? = H[q]?) → va_S A0 H0 H1 locs1 → W p l e R s m args below meth c H1 locs1 (cells + mc) (slots + ms) Q (F0 m (pc + 3) ls (.long r :: rest))) : W p l e R s m args below meth c H locs cells slots Q (F0 m pc ls st0) := by
  intro T hT X
  rcases hr T hT X with ⟨v, st₀, t, T', L, h0, X', hL, e1, e2, ⟨⟨r, u, hv, hp, hb⟩, hF⟩, st⟩ | ⟨q, st₀, t, T', L, E, ce, h0, X', hL, e1, e2, ⟨u, hp, hb, hF⟩, hce, hcv, hcl, st⟩
  · cases hv
    obtain ⟨k1, k2, k3⟩ := vx_keep h0 e1 hS hA hf hL hF
    obtain ⟨t2, a1, b1⟩ := kk r u t T'.heap (locs ++ L) e1.symm (by rw [← e2]; exact X'.warmed.alike) hp hb k1 k2 k3 T' rfl X'
    exact ⟨t2, st t2 a1, b1⟩
  · obtain ⟨k1, k2, k3⟩ := vx_keep h0 e1 hS hAX hf hL hF
    obtain ⟨t2, a1, b1⟩ := kx E ce q u t T'.heap (locs ++ L) e1.symm (by rw [← e2]; exact X'.warmed.alike) hp hb k1 k2 k3 (by rw [e1]; exact hce) hcv hcl T' rfl X'
    exact ⟨t2, st.trans a1, b1⟩
theorem vx_callf {S SX : Type} {post : UInt32 → S → Prop} {px : SX → Prop} {B : S → State → Prop} {BX : String → SX → State → Prop} {AX : Nat → Prop} (hr : vx_Run p l e R s m args below meth c H locs cells slots mc ms (F0 m pc ls st0) rest (va_Qf post B A1 a) (vx_X px BX AX) free) (hS : va_S A0 H0 H locs) (hA : ∀ q, q < H.size → A1 q → A0 q) (hf : ∀ q, free q → A0 q) (hAX : ∀ q, q < H.size → AX q → A0 q)
    (kx : ∀ (E : String) (ce : Cell) (q9 : Addr) (u : SX) (t : State) (H1 : Heap) (locs1 : List Loc), t.heap = H1 → s.vm.Alike t.vm → px u → BX E u t → H.size ≤ H1.size → (∀ q : Nat, q < H.size → ¬ AX q → H1[q]? = H[q]?) → va_S A0 H0 H1 locs1 → H1[q9]? = some ce → ce.vm = .none → s.vm.findClass E = some ce.cls → vx_W p l e R s m args below meth c H1 locs1 (cells + mc) (slots + ms) Q (F0 m pc ls rest) q9)
    (kk : ∀ (r : UInt32) (u : S) (t : State) (H1 : Heap) (locs1 : List Loc), t.heap = H1 → s.vm.Alike t.vm → post r u → B u t → H.size ≤ H1.size → (∀ q : Nat, q < H.size → ¬ A1 q → H1[q]? = H[q]?) → va_S A0 H0 H1 locs1 → W p l e R s m args below meth c H1 locs1 (cells + mc) (slots + ms) Q (F0 m (pc + 3) ls (.float r :: rest))) : W p l e R s m args below meth c H locs cells slots Q (F0 m pc ls st0) := by
  intro T hT X
  rcases hr T hT X with ⟨v, st₀, t, T', L, h0, X', hL, e1, e2, ⟨⟨r, u, hv, hp, hb⟩, hF⟩, st⟩ | ⟨q, st₀, t, T', L, E, ce, h0, X', hL, e1, e2, ⟨u, hp, hb, hF⟩, hce, hcv, hcl, st⟩
  · cases hv
    obtain ⟨k1, k2, k3⟩ := vx_keep h0 e1 hS hA hf hL hF
    obtain ⟨t2, a1, b1⟩ := kk r u t T'.heap (locs ++ L) e1.symm (by rw [← e2]; exact X'.warmed.alike) hp hb k1 k2 k3 T' rfl X'
    exact ⟨t2, st t2 a1, b1⟩
  · obtain ⟨k1, k2, k3⟩ := vx_keep h0 e1 hS hAX hf hL hF
    obtain ⟨t2, a1, b1⟩ := kx E ce q u t T'.heap (locs ++ L) e1.symm (by rw [← e2]; exact X'.warmed.alike) hp hb k1 k2 k3 (by rw [e1]; exact hce) hcv hcl T' rfl X'
    exact ⟨t2, st.trans a1, b1⟩
theorem vx_calld {S SX : Type} {post : UInt64 → S → Prop} {px : SX → Prop} {B : S → State → Prop} {BX : String → SX → State → Prop} {AX : Nat → Prop} (hr : vx_Run p l e R s m args below meth c H locs cells slots mc ms (F0 m pc ls st0) rest (va_Qd post B A1 a) (vx_X px BX AX) free) (hS : va_S A0 H0 H locs) (hA : ∀ q, q < H.size → A1 q → A0 q) (hf : ∀ q, free q → A0 q) (hAX : ∀ q, q < H.size → AX q → A0 q)
    (kx : ∀ (E : String) (ce : Cell) (q9 : Addr) (u : SX) (t : State) (H1 : Heap) (locs1 : List Loc), t.heap = H1 → s.vm.Alike t.vm → px u → BX E u t → H.size ≤ H1.size → (∀ q : Nat, q < H.size → ¬ AX q → H1[q]? = H[q]?) → va_S A0 H0 H1 locs1 → H1[q9]? = some ce → ce.vm = .none → s.vm.findClass E = some ce.cls → vx_W p l e R s m args below meth c H1 locs1 (cells + mc) (slots + ms) Q (F0 m pc ls rest) q9)
    (kk : ∀ (r : UInt64) (u : S) (t : State) (H1 : Heap) (locs1 : List Loc), t.heap = H1 → s.vm.Alike t.vm → post r u → B u t → H.size ≤ H1.size → (∀ q : Nat, q < H.size → ¬ A1 q → H1[q]? = H[q]?) → va_S A0 H0 H1 locs1 → W p l e R s m args below meth c H1 locs1 (cells + mc) (slots + ms) Q (F0 m (pc + 3) ls (.double r :: rest))) : W p l e R s m args below meth c H locs cells slots Q (F0 m pc ls st0) := by
  intro T hT X
  rcases hr T hT X with ⟨v, st₀, t, T', L, h0, X', hL, e1, e2, ⟨⟨r, u, hv, hp, hb⟩, hF⟩, st⟩ | ⟨q, st₀, t, T', L, E, ce, h0, X', hL, e1, e2, ⟨u, hp, hb, hF⟩, hce, hcv, hcl, st⟩
  · cases hv
    obtain ⟨k1, k2, k3⟩ := vx_keep h0 e1 hS hA hf hL hF
    obtain ⟨t2, a1, b1⟩ := kk r u t T'.heap (locs ++ L) e1.symm (by rw [← e2]; exact X'.warmed.alike) hp hb k1 k2 k3 T' rfl X'
    exact ⟨t2, st t2 a1, b1⟩
  · obtain ⟨k1, k2, k3⟩ := vx_keep h0 e1 hS hAX hf hL hF
    obtain ⟨t2, a1, b1⟩ := kx E ce q u t T'.heap (locs ++ L) e1.symm (by rw [← e2]; exact X'.warmed.alike) hp hb k1 k2 k3 (by rw [e1]; exact hce) hcv hcl T' rfl X'
    exact ⟨t2, st.trans a1, b1⟩
theorem vx_callv {S SX : Type} {post : S → Prop} {px : SX → Prop} {B : S → State → Prop} {BX : String → SX → State → Prop} {AX : Nat → Prop} (hr : vx_Run p l e R s m args below meth c H locs cells slots mc ms (F0 m pc ls st0) rest (va_Qv post B A1 a) (vx_X px BX AX) free) (hS : va_S A0 H0 H locs) (hA : ∀ q, q < H.size → A1 q → A0 q) (hf : ∀ q, free q → A0 q) (hAX : ∀ q, q < H.size → AX q → A0 q)
    (kx : ∀ (E : String) (ce : Cell) (q9 : Addr) (u : SX) (t : State) (H1 : Heap) (locs1 : List Loc), t.heap = H1 → s.vm.Alike t.vm → px u → BX E u t → H.size ≤ H1.size → (∀ q : Nat, q < H.size → ¬ AX q → H1[q]? = H[q]?) → va_S A0 H0 H1 locs1 → H1[q9]? = some ce → ce.vm = .none → s.vm.findClass E = some ce.cls → vx_W p l e R s m args below meth c H1 locs1 (cells + mc) (slots + ms) Q (F0 m pc ls rest) q9)
    (kk : ∀ (u : S) (t : State) (H1 : Heap) (locs1 : List Loc), t.heap = H1 → s.vm.Alike t.vm → post u → B u t → H.size ≤ H1.size → (∀ q : Nat, q < H.size → ¬ A1 q → H1[q]? = H[q]?) → va_S A0 H0 H1 locs1 → W p l e R s m args below meth c H1 locs1 (cells + mc) (slots + ms) Q (F0 m (pc + 3) ls (rest))) : W p l e R s m args below meth c H locs cells slots Q (F0 m pc ls st0) := by
  intro T hT X
  rcases hr T hT X with ⟨v, st₀, t, T', L, h0, X', hL, e1, e2, ⟨⟨u, hv, hp, hb⟩, hF⟩, st⟩ | ⟨q, st₀, t, T', L, E, ce, h0, X', hL, e1, e2, ⟨u, hp, hb, hF⟩, hce, hcv, hcl, st⟩
  · cases hv
    obtain ⟨k1, k2, k3⟩ := vx_keep h0 e1 hS hA hf hL hF
    obtain ⟨t2, a1, b1⟩ := kk u t T'.heap (locs ++ L) e1.symm (by rw [← e2]; exact X'.warmed.alike) hp hb k1 k2 k3 T' rfl X'
    exact ⟨t2, st t2 a1, b1⟩
  · obtain ⟨k1, k2, k3⟩ := vx_keep h0 e1 hS hAX hf hL hF
    obtain ⟨t2, a1, b1⟩ := kx E ce q u t T'.heap (locs ++ L) e1.symm (by rw [← e2]; exact X'.warmed.alike) hp hb k1 k2 k3 (by rw [e1]; exact hce) hcv hcl T' rfl X'
    exact ⟨t2, st.trans a1, b1⟩
/-- caught by the row x of this method's table; the rows ahead don't take it -/
theorem vx_catch {own name : String} {E : String} {ce : Cell} {q : Addr} (hown : s.vm.findClass own = some m.cls) (pre : List ExceptionTableEntry) (x : ExceptionTableEntry) (suf : List ExceptionTableEntry) (hsplit : c.exceptionTable.toList = pre ++ x :: suf)
    (hpass : ∀ z ∈ pre, covers z pc = false ∨ (z.catchType ≠ 0 ∧ ∃ nm : String, (Cond.classLink own z.catchType nm).before args s = true ∧ va_Nc E nm s)) (hx : covers x pc = true) (h0 : x.catchType ≠ 0)
    (hlink : (Cond.classLink own x.catchType name).before args s = true) (hcast : (Cond.castable E name).before args s = true) (hcell : H[q]? = some ce) (hv : ce.vm = .none) (hcl : s.vm.findClass E = some ce.cls)
    (kk : W p l e R s m args below meth c H locs cells slots Q (F0 m x.handlerPc ls [.ref q])) : vx_W p l e R s m args below meth c H locs cells slots Q (F0 m pc ls rest) q := by
  intro T hT X
  have hpl : e.platform.magicAccessors = ({} : Platform).magicAccessors := by rw [X.admits.platform]
  obtain ⟨c3, c4, hc3, hc4, hasg⟩ := Cond.castable_spec hcast
  cases Option.some.inj (hc3.symm.trans hcl)
  obtain ⟨c5, hc5, hcl5⟩ := Cond.classLink_spec hown hlink e.platform hpl
  cases Option.some.inj (hc4.symm.trans hc5)
  obtain ⟨vm', X', st⟩ := X.thenCaughtThrough q (g := F0 m pc ls rest) rfl (Steps.refl _) (by rw [hT]; exact hcell) (by rw [hv]; rfl) (by obtain ⟨k9, h9, -⟩ := Vm.findClass_spec hcl; exact ⟨k9, h9⟩) pre x suf hsplit
    (fun z hz => by
      rcases hpass z hz with h | ⟨hz0, nm, hl1, hn1⟩
      · exact Or.inl h
      · obtain ⟨c6, hc6, hcl6⟩ := Cond.classLink_spec hown hl1 e.platform hpl
        obtain ⟨a8, b8, h1, h2, h3⟩ := hn1
        cases Option.some.inj (h1.symm.trans hcl)
        cases Option.some.inj (h2.symm.trans hc6)
        exact Or.inr ⟨hz0, _, hcl6, h3⟩) hx (Or.inr ⟨h0, c4, hcl5, hasg⟩)
  obtain ⟨t, a1, b1⟩ := kk (T.setVm vm') hT X'
  exact ⟨t, st.trans a1, b1⟩
end Rows
section Ends
variable {p : Program} {l : Launch} {e : Env} {R : Room} {s : State} {m : MethodId} {args : Array Value} {below : List Frame} {meth : Method} {c : Code} {H : Heap} {locs : List Loc} {cells slots : Nat} {Q : State → Prop}
variable {mc ms : Nat} {free : Addr → Prop} {A0 A1 : Nat → Prop} {H0 : Heap} {a : Array Value} {ls : Array Slot} {st0 rest : List Value}
variable {Qc : Array Value → State → Outcome → State → Prop} {XC : String → State → State → Prop}
/-- what a body that may throw owes at its end -/
def vx_MQ (below : List Frame) (Qc : Array Value → State → Outcome → State → Prop) (XC : String → State → State → Prop) (a : Array Value) (s : State) (mc ms : Nat) (free : Addr → Prop) : State → Prop := fun t =>
  ∃ o, t.status = .running ∧ Ended t below o ∧ vx_Q Qc XC mc ms free a s o t
theorem vx_ret {g : JFrame} {mc ms : Nat} (k : W p l e R s m args below meth c H locs cells slots (MQ below Qc args s mc ms free) g) : W p l e R s m args below meth c H locs cells slots (vx_MQ below Qc XC args s mc ms free) g := by
  intro T hT X
  obtain ⟨t, a1, o, b1, b2, b3, b4⟩ := k T hT X
  exact ⟨t, a1, o, b1, b2, Or.inl ⟨b3, b4⟩⟩
/-- not caught here: it goes on to the caller -/
theorem vx_widen {g : JFrame} {q : Addr} {k n : Nat} (h1 : cells ≤ k) (h2 : slots ≤ n) (kk : vx_W p l e R s m args below meth c H locs k n Q g q) : vx_W p l e R s m args below meth c H locs cells slots Q g q := fun T hT X => kk T hT (stand_widen X h1 h2)
theorem vx_out {pc : Nat} {E : String} {ce : Cell} {q : Addr} {mc ms : Nat} (hout : ∀ x ∈ c.exceptionTable.toList, covers x pc = false) (hlocks : meth.locks = false) (hcell : H[q]? = some ce) (hv : ce.vm = .none) (hcl : s.vm.findClass E = some ce.cls)
    (hx : ∀ t : State, t.heap = H → s.vm.Alike t.vm → XC E s t) (hf : ∀ z ∈ locs, free z.base) (hc : cells ≤ mc) (hs : slots ≤ ms) :
    vx_W p l e R s m args below meth c H locs cells slots (vx_MQ below Qc XC args s mc ms free) (F0 m pc ls rest) q := by
  intro T hT X
  obtain ⟨st1, hrun, hend, hW, hsm⟩ := X.leaveThrown q (g := F0 m pc ls rest) rfl rfl rfl hout hlocks
  have hcell9 : (T.setFrames (.throwing q :: below)).heap[q]? = some ce := by
    show T.heap[q]? = some ce
    rw [hT]; exact hcell
  exact ⟨_, st1, .threw q, hrun, hend, Or.inr ⟨q, rfl, E, ce, locs, hx _ hT hW.alike, hcell9, hv, hcl, hW, hsm.mono hc hs, hf⟩⟩
theorem vx_frame {U : State} {k n : Nat} (h : s.sameButNew ({ U with vm := s.vm } : State) locs k n) : s.heap.size ≤ U.heap.size ∧ ∀ q : Nat, q < s.heap.size → (∀ z ∈ locs, z.base ≠ q) → U.heap[q]? = s.heap[q]? := by
  obtain ⟨-, h2, -, -, -, h6⟩ := h
  refine ⟨h2, fun q hq hz => ?_⟩
  obtain ⟨c9, e1, e2, e3, e4⟩ := h6 q _ (Array.getElem?_eq_getElem hq)
  have hs : c9.slots = (s.heap[q]).slots := Array.ext_getElem? fun i => e4 i fun hm => hz _ hm rfl
  have h9 : c9 = s.heap[q] := by
    rw [hs] at e2
    exact e2
  have e5 : U.heap[q]? = some c9 := e1
  rw [e5, h9, Array.getElem?_eq_getElem hq]
/-- the words of a throw but the four that speak of the heap -/
def vx_no (w : Cond) : Bool := decide (w ≠ .isRef (.static Bundle.tN "UNASSIGNED_STACK" Bundle.steD)) && decide (w ≠ .isRef (.static Bundle.tN "SUPPRESSED_SENTINEL" Bundle.listD)) && decide (w ≠ .laysStatic Bundle.tN "UNASSIGNED_STACK" Bundle.steD) && decide (w ≠ .laysStatic Bundle.tN "SUPPRESSED_SENTINEL" Bundle.listD)
def vx_at0 (own : String) (ic : Nat) (X : String) (names : List String) : List Cond := (Bundle.ownAtoms0 own ic X names).filter vx_no
def vx_atS (own : String) (ic : Nat) (X : String) (names : List String) : List Cond := (Bundle.ownAtoms own ic X names).filter vx_no
/-- a word that the tables alone decide, or a good one -/
def vx_ot (w : Cond) : Bool := w.onTables || goodWord w
theorem vx_ot_at {args a' : Array Value} {s U : State} {w : Cond} (hW : s.WarmedH U.vm) (hvm : s.vm = U.vm) (hg : vx_ot w = true) (h : w.before args s = true) : w.before a' U = true := by
  simp only [vx_ot, Bool.or_eq_true] at hg
  rcases hg with hg | hg
  · exact va_tabs hg hvm h
  · exact word_at hW (good_of_word hg) h
/-- a list's words: the good ones out of the method's own list, the others by premises of their own -/
theorem vx_hat {args : Array Value} {s : State} {L B : List Cond} (h1 : ∀ w ∈ L.filter goodWord, w.before args s = true) (h2 : ∀ w ∈ L.filter (fun w => !goodWord w), w ∈ B) (h3 : ∀ w ∈ B, w.before args s = true) : ∀ w ∈ L, w.before args s = true := by
  intro w hw
  by_cases g : goodWord w = true
  · exact h1 w (List.mem_filter.mpr ⟨hw, g⟩)
  · refine h3 w (h2 w (List.mem_filter.mpr ⟨hw, ?_⟩))
    show (!goodWord w) = true
    cases hgw : goodWord w
    · rfl
    · exact absurd hgw g
theorem vx_c {args : Array Value} {s : State} {w : Cond} {B : List Cond} (h : w.before args s = true) (t : ∀ w ∈ B, w.before args s = true) : ∀ w' ∈ w :: B, w'.before args s = true := fun w' h' => (List.mem_cons.mp h').elim (fun e => by rw [e]; exact h) (t w')
theorem vx_n {args : Array Value} {s : State} : ∀ w ∈ ([] : List Cond), w.before args s = true := fun _ h => nomatch h
theorem vx_own {args : Array Value} {s : State} {L : List Cond} (h1 : ∀ w ∈ L.filter vx_no, w.before args s = true)
    (hU : (Cond.isRef (.static Bundle.tN "UNASSIGNED_STACK" Bundle.steD)).before args s = true) (hN : (Cond.isRef (.static Bundle.tN "SUPPRESSED_SENTINEL" Bundle.listD)).before args s = true)
    (lU : (Cond.laysStatic Bundle.tN "UNASSIGNED_STACK" Bundle.steD).before args s = true) (lN : (Cond.laysStatic Bundle.tN "SUPPRESSED_SENTINEL" Bundle.listD).before args s = true) : ∀ w ∈ L, w.before args s = true := by
  intro w hw
  by_cases e1 : w = .isRef (.static Bundle.tN "UNASSIGNED_STACK" Bundle.steD)
  · rw [e1]; exact hU
  · by_cases e2 : w = .isRef (.static Bundle.tN "SUPPRESSED_SENTINEL" Bundle.listD)
    · rw [e2]; exact hN
    · by_cases e3 : w = .laysStatic Bundle.tN "UNASSIGNED_STACK" Bundle.steD
      · rw [e3]; exact lU
      · by_cases e4 : w = .laysStatic Bundle.tN "SUPPRESSED_SENTINEL" Bundle.listD
        · rw [e4]; exact lN
        · exact h1 w (List.mem_filter.mpr ⟨hw, by unfold vx_no; rw [decide_eq_true e1, decide_eq_true e2, decide_eq_true e3, decide_eq_true e4]; rfl⟩)
/-- where a static field lies, its class's statics cell in H -/
def vx_L (C n d : String) (A : Nat → Prop) (U : State) (H : Heap) : Prop := ∃ (c : ClassId) (k : Class) (i : Nat) (f : Field) (a : Nat) (cell : Cell), U.vm.findClass C = some c ∧ U.fieldFound? C n d = some (c, k, i, f) ∧ f.isStatic = true ∧ k.statics = some a ∧ H[a]? = some cell ∧ cell.vm.isStatics = true ∧ cell.cls = c ∧ f.slot < cell.slots.size ∧ k.staticTypes[f.slot]? = some f.type ∧ ¬ A a
theorem vx_L.moved {C n d : String} {A : Nat → Prop} {u U : State} {H : Heap} (hvm : u.vm.Alike U.vm) (h : vx_L C n d A u H) : vx_L C n d A U H := by
  obtain ⟨c, k, i, f, a, cell, h1, h2, h3, h4, h5, h6, h7, h8, h9, h10⟩ := h
  obtain ⟨k', hi', he⟩ := State.fieldFound?_setVm hvm h2
  exact ⟨c, k', i, f, a, cell, by rw [hvm.findClass]; exact h1, hi', h3, by rw [he]; exact h4, h5, h6, h7, h8, by rw [he]; exact h9, h10⟩
theorem vx_L.kept {C n d : String} {A : Nat → Prop} {U : State} {H H1 : Heap} (h : vx_L C n d A U H) (hq : ∀ a : Nat, a < H.size → ¬ A a → H1[a]? = H[a]?) : vx_L C n d A U H1 := by
  obtain ⟨c, k, i, f, a, cell, h1, h2, h3, h4, h5, h6, h7, h8, h9, h10⟩ := h
  exact ⟨c, k, i, f, a, cell, h1, h2, h3, h4, by rw [hq a (Array.getElem?_eq_some_iff.mp h5).1 h10]; exact h5, h6, h7, h8, h9, h10⟩
theorem vx_L.narrow {C n d : String} {A B : Nat → Prop} {U : State} {H : Heap} (h : vx_L C n d A U H) (hAB : ∀ q, B q → A q) : vx_L C n d B U H := by
  obtain ⟨c, k, i, f, a, cell, h1, h2, h3, h4, h5, h6, h7, h8, h9, h10⟩ := h
  exact ⟨c, k, i, f, a, cell, h1, h2, h3, h4, h5, h6, h7, h8, h9, fun z => h10 (hAB _ z)⟩
theorem vx_L.word {C n d : String} {A : Nat → Prop} {s : State} {args : Array Value} (h : vx_L C n d A s s.heap) : (Cond.laysStatic C n d).before args s = true := by
  obtain ⟨c, k, i, f, a, cell, h1, h2, h3, h4, h5, h6, h7, h8, h9, -⟩ := h
  show (Cond.laysStatic C n d).holds args s none s [] = true
  exact Cond.laysStatic_of h1 h2 h3 h4 h5 h6 h7 h8 h9
/-- .. and what it holds: null or some reference -/
def vx_Zq (C n d : String) (A : Nat → Prop) (U : State) (H : Heap) : Prop := va_Zq C n d A U H ∧ vx_L C n d A U H
theorem vx_Zq.moved {C n d : String} {A : Nat → Prop} {u U : State} {H : Heap} (hvm : u.vm.Alike U.vm) (h : vx_Zq C n d A u H) : vx_Zq C n d A U H := ⟨va_Zq.moved hvm h.1, vx_L.moved hvm h.2⟩
theorem vx_Zq.kept {C n d : String} {A : Nat → Prop} {U : State} {H H1 : Heap} (h : vx_Zq C n d A U H) (hq : ∀ a : Nat, a < H.size → ¬ A a → H1[a]? = H[a]?) : vx_Zq C n d A U H1 := ⟨va_Zq.kept h.1 hq, vx_L.kept h.2 hq⟩
theorem vx_Zq.narrow {C n d : String} {A B : Nat → Prop} {U : State} {H : Heap} (h : vx_Zq C n d A U H) (hAB : ∀ q, B q → A q) : vx_Zq C n d B U H := ⟨va_Zq.narrow h.1 hAB, vx_L.narrow h.2 hAB⟩
theorem vx_Zqof {args : Array Value} {s : State} {C n d : String} {A : Nat → Prop} (hl : (Cond.laysStatic C n d).before args s = true) (hini : (Cond.initialized C).before args s = true) (h : (Cond.isRef (.static C n d)).before args s = true) (hA : ∀ a : Nat, a < s.heap.size → ¬ A a) : vx_Zq C n d A s s.heap := by
  refine ⟨va_Zqof hl hini h hA, ?_⟩
  obtain ⟨c, k, i, f, a, cell, h1, h2, h3, h4, h5, h6, h7, h8, h9⟩ := Cond.laysStatic_spec hl
  exact ⟨c, k, i, f, a, cell, h1, h2, h3, h4, h5, h6, h7, h8, h9, hA a (Array.getElem?_eq_some_iff.mp h5).1⟩
theorem vx_isRef {C n d : String} {v : Value} {A : Nat → Prop} {s : State} {args : Array Value} (h : va_Z C n d v A s s.heap) (hv : v.isRef = true) : (Cond.isRef (.static C n d)).before args s = true := by
  obtain ⟨cf, kf, fi, f, a, cell, h1, h2, h3, h4, h5, h6, h7, -⟩ := h
  have he : (Term.static C n d).eval args s none [] s = some v := by
    simp [Term.eval, State.fieldNamed?, h1, h2, h4, h5, h6, h7]
  simp only [Cond.before, Cond.holds, Cond.value, he]
  cases v <;> simp_all [Value.isRef]
theorem vx_isRefq {C n d : String} {A : Nat → Prop} {s : State} {args : Array Value} (h : va_Zq C n d A s s.heap) : (Cond.isRef (.static C n d)).before args s = true := by
  rcases h with h | ⟨t, h⟩
  · exact vx_isRef h rfl
  · exact vx_isRef h rfl
/-- the same frame, seen from here: as if the method were called anew in this heap -/
theorem vx_rebase {T : State} (X : Stand p l e R s m args below meth c T locs cells slots) {R' : Room} (hf : R'.frames ≤ R.frames) (hl : R'.locals ≤ R.locals) (hc : cells + R'.cells ≤ R.cells) (hs : slots + R'.slots ≤ R.slots) :
    Stand p l e R' ((T.setVm s.vm).setFrames (.invoking m args :: below)) m args below meth c T [] 0 0 := by
  have htop : (T.setVm s.vm).topJava?.isSome := X.here.top
  have hF : ((T.setVm s.vm).setFrames (.invoking m args :: below)).frames = .invoking m args :: below := State.frames_setFrames _ (State.cur_lt_of_top htop)
  obtain ⟨g₀, hg0⟩ := Option.isSome_iff_exists.mp htop
  obtain ⟨r, hr⟩ := State.topJava?_eq_some.mp hg0
  have hl9 : e.platform.stackLimits (T.setVm s.vm).me = e.platform.stackLimits s.me := X.limits
  have hb9 : (T.setVm s.vm).me.stackBytes = s.me.stackBytes := X.bytes
  refine ⟨X.admits, X.cas, X.clock, hF, ?_, X.hears, X.method, X.code, X.here, X.tail, X.warmed, ?_, ?_, ?_⟩
  · have h := X.room
    have hU : ((T.setVm s.vm).setFrames (.invoking m args :: below)).localsInUse = s.localsInUse := by
      rw [State.localsInUse_invoking hF (meth := meth) (c := c) X.method X.code, State.localsInUse_invoking X.frames X.method X.code]
    simp only [State.hasRoom, Bool.and_eq_true, decide_eq_true_eq] at h ⊢
    obtain ⟨⟨⟨⟨h1, h2, h3, h4, h5, h6⟩, h7⟩, h8⟩, h9⟩ := h
    rw [X.frames, List.length_cons] at h2 h3
    have q1 := X.heapSize
    have q2 := X.used
    simp only [hF, hU, List.length_cons, State.stackLimits_setFrames, State.stackBytes_setFrames, hl9, hb9]
    refine ⟨⟨⟨⟨by omega, by omega, by omega, by omega, by omega, h6⟩, ?_⟩, ?_⟩, X.book⟩
    · show T.heap.size + R'.cells ≤ e.platform.maxCells
      omega
    · show T.slotsUsed + R'.slots ≤ e.platform.maxSlots
      omega
  · rw [State.stackLimits_setFrames]; rfl
  · rw [State.stackBytes_setFrames]; rfl
  · refine ⟨?_, Nat.le_refl _, Nat.le_refl _, ?_, ?_, fun a c9 h9 => ⟨c9, h9, rfl, rfl, fun _ _ => rfl⟩⟩
    · obtain ⟨t, ht, -⟩ := State.frames_cons hr
      show T.setVm s.vm = { ((T.setVm s.vm).setFrames (.invoking m args :: below)).setFrames (T.setVm s.vm).frames with heap := T.heap, slotsUsed := T.slotsUsed }
      rw [State.setFrames_setFrames, State.setFrames_self ht]
      rfl
    · show T.slotsUsed = T.slotsUsed + ((T.heap.toList.drop T.heap.size).map (·.slots.size)).sum
      rw [List.drop_eq_nil_of_le (Nat.le_of_eq Array.length_toList)]
      rfl
    · show ((T.heap.toList.drop T.heap.size).map (·.slots.size)).sum ≤ 0
      rw [List.drop_eq_nil_of_le (Nat.le_of_eq Array.length_toList)]
      exact Nat.le_refl _
/-- 'throw new E()': new; dup; invokespecial; athrow -/
theorem vx_throw0 {cc : ByteArray} {pc : Nat} (hexec : p.tables.exec = Jvm.exec) (hb : c.code = cc) (hl : l.stackTraces = false) {own cls : String} {names : List String} {ik ic mc ms : Nat} {A : Nat → Prop}
    (hown : s.vm.findClass own = some m.cls) (hcls : Bundle.fit cls = true) (hnames : ∀ n ∈ names, Bundle.fit n = true)
    (hk : (Cond.classLink own ik cls).before args s = true) (hini : (Cond.initialized cls).before args s = true) (hat : ∀ w ∈ vx_at0 own ic cls names, w.before args s = true)
    (hgood : ∀ w ∈ Cond.classLink own ik cls :: Cond.initialized cls :: vx_at0 own ic cls names, vx_ot w = true)
    (hU : vx_Zq Bundle.tN "UNASSIGNED_STACK" Bundle.steD A s s.heap) (hN : vx_Zq Bundle.tN "SUPPRESSED_SENTINEL" Bundle.listD A s s.heap) (hS : va_S A s.heap H locs) (hsize : ls.size = c.maxLocals)
    (d0 : decode cc pc = .ok (.new ik, 3)) (d3 : decode cc (pc + 3) = .ok (.dup, 1)) (d4 : decode cc (pc + 4) = .ok (.invokespecial ic, 3)) (d7 : decode cc (pc + 7) = .ok (.athrow, 1))
    (hout : ∀ x ∈ c.exceptionTable.toList, covers x (pc + 7) = false)
    (hRframes : names.length + 3 < R.frames) (hRlocals : (rest.map fun v => v.category).sum + (13 * (names.length + 1) + 42) ≤ R.locals) (hRcells : cells + 1 ≤ R.cells) (hRslots : slots + 6 ≤ R.slots) (hlocks : meth.locks = false)
    (hx : ∀ t : State, s.vm.Alike t.vm → H.size ≤ t.heap.size → (∀ q : Nat, q < H.size → t.heap[q]? = H[q]?) → XC cls s t)
    (hf : ∀ z ∈ locs, free z.base) (hc : cells + 1 ≤ mc) (hs : slots + 6 ≤ ms) :
    W p l e R s m args below meth c H locs cells slots (vx_MQ below Qc XC args s mc ms free) (F0 m pc ls rest) := by
  intro T hT X
  have htr : e.platform.stackTraces = false := (show e.platform.stackTraces = l.stackTraces by rw [X.admits.platform]).trans hl
  have Y := vx_rebase X (R' := { frames := R.frames, locals := R.locals, cells := 1, slots := 6 }) (Nat.le_refl _) (Nat.le_refl _) hRcells hRslots
  obtain ⟨s', hA⟩ : ∃ z, z = (T.setVm s.vm).setFrames (.invoking m args :: below) := ⟨_, rfl⟩
  rw [← hA] at Y
  have hvm : s'.vm = s.vm := by rw [hA]; rfl
  have hhp : s'.heap = H := by rw [hA]; exact hT
  have hW0 : s.WarmedH s'.vm := by rw [hvm]; exact State.WarmedH.refl s
  have hat' : ∀ w ∈ vx_at0 own ic cls names, w.before args s' = true := fun w hw => vx_ot_at hW0 hvm.symm (hgood w (List.mem_cons_of_mem _ (List.mem_cons_of_mem _ hw))) (hat w hw)
  have hk' : (Cond.classLink own ik cls).before args s' = true := vx_ot_at hW0 hvm.symm (hgood _ List.mem_cons_self) hk
  have hini' : (Cond.initialized cls).before args s' = true := vx_ot_at hW0 hvm.symm (hgood _ (List.mem_cons_of_mem _ List.mem_cons_self)) hini
  have hU' : vx_Zq Bundle.tN "UNASSIGNED_STACK" Bundle.steD A s' s'.heap := by rw [hhp]; exact vx_Zq.moved hW0.alike (hU.kept hS.2.1)
  have hN' : vx_Zq Bundle.tN "SUPPRESSED_SENTINEL" Bundle.listD A s' s'.heap := by rw [hhp]; exact vx_Zq.moved hW0.alike (hN.kept hS.2.1)
  have h : ∀ w ∈ Bundle.ownAtoms0 own ic cls names, w.before args s' = true := vx_own hat' (vx_isRefq hU'.1) (vx_isRefq hN'.1) hU'.2.word hN'.2.word
  have hown' : s'.vm.findClass own = some m.cls := by rw [hvm]; exact hown
  have hins : (Cond.instantiable cls 6).before args s' = true := h _ (by simp [Bundle.ownAtoms0])
  obtain ⟨vm₁, cX, kX, hfX, hkX, -, -, X₁, st1⟩ := Y.newCold hexec (own := own) (C := cls) (index := ik) (n := 6) hown' hk' hins hini'
    (g := F0 m pc ls rest) rfl (by rw [hb]; exact d0) (Nat.le_refl _) (Nat.le_refl _)
  generalize hT1 : (T.setVm vm₁).pushCell { cls := cX, slots := kX.instanceTypes.map defaultValue, vm := .none } = T1 at X₁ st1
  have hcat : (Value.ref T.heap.size).category = 1 := rfl
  have hcellA : T1.heap[T.heap.size]? = some (freshCell cX kX) := by rw [← hT1]; exact State.heap_pushCell_size _ _
  have d3' : decode c.code (pc + 3) = .ok (.dup, 1) := by rw [hb]; exact d3
  obtain ⟨U, hsteps, hrun, hend, hW, hsame, ce, hce, hO⟩ := X₁.ctorThrow0 hexec htr (own := own) (cls := cls) (names := names) (ic := ic) hown' hcls hnames h (fun x hx => nomatch hx) hfX hkX hcellA (by rw [hhp, hT]; exact Nat.le_refl _)
    (g := { method := m, pc := pc + 4, locals := ls, stack := .ref T.heap.size :: .ref T.heap.size :: rest, locked := none }) rfl hsize rfl rfl (rest := rest) rfl
    (by rw [hb]; exact d4) (by rw [hb]; exact d7) hout hRframes (by simp only [List.map_cons, List.sum_cons, hcat]; omega) hlocks
  obtain ⟨f1, f2⟩ := vx_frame hsame
  rw [hhp] at f1 f2
  have hWs : s.WarmedH U.vm := State.WarmedH.trans hW0 hW
  have hcl : s.vm.findClass cls = some ce.cls := by
    have h9 := hO.cls
    rw [hvm] at h9
    exact h9
  have hall : s.sameButNew ({ U with vm := s.vm } : State) locs mc ms := by
    subst hA
    obtain ⟨e1, e2⟩ := hsame
    rw [State.setFrames_setFrames] at e1
    have h2 : (T.setVm s.vm).sameButNew ({ U with vm := s.vm } : State) [] (0 + 1) (0 + 6) := ⟨e1, e2⟩
    have h3 := X.same.trans h2
    rw [List.append_nil] at h3
    exact h3.mono hc hs
  refine ⟨U, ?_, .threw T.heap.size, hrun, hend, Or.inr ⟨T.heap.size, rfl, cls, ce, locs, hx U hWs.alike f1 (fun q hq => f2 q hq (fun z hz => nomatch hz)), hce, hO.vm, hcl, hWs, hall, hf⟩⟩
  refine st1 _ ?_
  show Steps p.tables e below (T1.setTop { method := m, pc := pc + 3, locals := ls, stack := .ref T.heap.size :: rest, locked := none }) _
  jvm_step X₁.here [X₁.here.top, hexec, d3', Value.category]
  exact hsteps
/-- 'throw new E("text")': new; dup; ldc; invokespecial; athrow -/
theorem vx_throwS {cc : ByteArray} {pc : Nat} (hexec : p.tables.exec = Jvm.exec) (hb : c.code = cc) (hl : l.stackTraces = false) {own cls text : String} {names : List String} {ik is ic mc ms sa : Nat} {A : Nat → Prop}
    (hown : s.vm.findClass own = some m.cls) (hcls : Bundle.fit cls = true) (hnames : ∀ n ∈ names, Bundle.fit n = true)
    (hk : (Cond.classLink own ik cls).before args s = true) (hini : (Cond.initialized cls).before args s = true) (hstr : vk_R own is text sa s) (hat : ∀ w ∈ vx_atS own ic cls names, w.before args s = true)
    (hgood : ∀ w ∈ Cond.classLink own ik cls :: Cond.initialized cls :: vx_atS own ic cls names, vx_ot w = true)
    (hU : vx_Zq Bundle.tN "UNASSIGNED_STACK" Bundle.steD A s s.heap) (hN : vx_Zq Bundle.tN "SUPPRESSED_SENTINEL" Bundle.listD A s s.heap) (hS : va_S A s.heap H locs) (hsize : ls.size = c.maxLocals)
    (d0 : decode cc pc = .ok (.new ik, 3)) (d3 : decode cc (pc + 3) = .ok (.dup, 1)) (d4 : decode cc (pc + 4) = .ok (.ldc is, 2)) (d6 : decode cc (pc + 6) = .ok (.invokespecial ic, 3)) (d9 : decode cc (pc + 9) = .ok (.athrow, 1))
    (hout : ∀ x ∈ c.exceptionTable.toList, covers x (pc + 9) = false)
    (hRframes : names.length + 3 < R.frames) (hRlocals : (rest.map fun v => v.category).sum + (13 * (names.length + 1) + 43) ≤ R.locals) (hRcells : cells + 1 ≤ R.cells) (hRslots : slots + 6 ≤ R.slots) (hlocks : meth.locks = false)
    (hx : ∀ t : State, s.vm.Alike t.vm → H.size ≤ t.heap.size → (∀ q : Nat, q < H.size → t.heap[q]? = H[q]?) → XC cls s t)
    (hf : ∀ z ∈ locs, free z.base) (hc : cells + 1 ≤ mc) (hs : slots + 6 ≤ ms) :
    W p l e R s m args below meth c H locs cells slots (vx_MQ below Qc XC args s mc ms free) (F0 m pc ls rest) := by
  intro T hT X
  have htr : e.platform.stackTraces = false := (show e.platform.stackTraces = l.stackTraces by rw [X.admits.platform]).trans hl
  have Y := vx_rebase X (R' := { frames := R.frames, locals := R.locals, cells := 1, slots := 6 }) (Nat.le_refl _) (Nat.le_refl _) hRcells hRslots
  obtain ⟨s', hA⟩ : ∃ z, z = (T.setVm s.vm).setFrames (.invoking m args :: below) := ⟨_, rfl⟩
  rw [← hA] at Y
  have hvm : s'.vm = s.vm := by rw [hA]; rfl
  have hhp : s'.heap = H := by rw [hA]; exact hT
  have hW0 : s.WarmedH s'.vm := by rw [hvm]; exact State.WarmedH.refl s
  have hat' : ∀ w ∈ vx_atS own ic cls names, w.before args s' = true := fun w hw => vx_ot_at hW0 hvm.symm (hgood w (List.mem_cons_of_mem _ (List.mem_cons_of_mem _ hw))) (hat w hw)
  have hk' : (Cond.classLink own ik cls).before args s' = true := vx_ot_at hW0 hvm.symm (hgood _ List.mem_cons_self) hk
  have hini' : (Cond.initialized cls).before args s' = true := vx_ot_at hW0 hvm.symm (hgood _ (List.mem_cons_of_mem _ List.mem_cons_self)) hini
  have hU' : vx_Zq Bundle.tN "UNASSIGNED_STACK" Bundle.steD A s' s'.heap := by rw [hhp]; exact vx_Zq.moved hW0.alike (hU.kept hS.2.1)
  have hN' : vx_Zq Bundle.tN "SUPPRESSED_SENTINEL" Bundle.listD A s' s'.heap := by rw [hhp]; exact vx_Zq.moved hW0.alike (hN.kept hS.2.1)
  have h : ∀ w ∈ Bundle.ownAtoms own ic cls names, w.before args s' = true := vx_own hat' (vx_isRefq hU'.1) (vx_isRefq hN'.1) hU'.2.word hN'.2.word
  have hown' : s'.vm.findClass own = some m.cls := by rw [hvm]; exact hown
  have hins : (Cond.instantiable cls 6).before args s' = true := h _ (by simp [Bundle.ownAtoms])
  obtain ⟨vm₁, cX, kX, hfX, hkX, -, -, X₁, st1⟩ := Y.newCold hexec (own := own) (C := cls) (index := ik) (n := 6) hown' hk' hins hini'
    (g := F0 m pc ls rest) rfl (by rw [hb]; exact d0) (Nat.le_refl _) (Nat.le_refl _)
  generalize hT1 : (T.setVm vm₁).pushCell { cls := cX, slots := kX.instanceTypes.map defaultValue, vm := .none } = T1 at X₁ st1
  have hcat : (Value.ref T.heap.size).category = 1 := rfl
  have hcellA : T1.heap[T.heap.size]? = some (freshCell cX kX) := by rw [← hT1]; exact State.heap_pushCell_size _ _
  have d3' : decode c.code (pc + 3) = .ok (.dup, 1) := by rw [hb]; exact d3
  have d4' : decode c.code (pc + 4) = .ok (.ldc is, 2) := by rw [hb]; exact d4
  have hstr' : vk_R own is text sa s' := vk_R.warm hW0 hstr
  obtain ⟨U, hsteps, hrun, hend, hW, hsame, ce, hce, hO⟩ := X₁.ctorThrowS hexec htr (own := own) (cls := cls) (names := names) (ic := ic) hown' hcls hnames h (fun x hx => nomatch hx) hfX hkX hcellA (by rw [hhp, hT]; exact Nat.le_refl _) (msg := .ref sa) rfl
    (g := { method := m, pc := pc + 6, locals := ls, stack := .ref sa :: .ref T.heap.size :: .ref T.heap.size :: rest, locked := none }) rfl hsize rfl rfl (rest := rest) rfl
    (by rw [hb]; exact d6) (by rw [hb]; exact d9) hout hRframes (by simp only [List.map_cons, List.sum_cons, hcat]; omega) hlocks
  obtain ⟨f1, f2⟩ := vx_frame hsame
  rw [hhp] at f1 f2
  have hWs : s.WarmedH U.vm := State.WarmedH.trans hW0 hW
  have hcl : s.vm.findClass cls = some ce.cls := by
    have h9 := hO.cls
    rw [hvm] at h9
    exact h9
  have hall : s.sameButNew ({ U with vm := s.vm } : State) locs mc ms := by
    subst hA
    obtain ⟨e1, e2⟩ := hsame
    rw [State.setFrames_setFrames] at e1
    have h2 : (T.setVm s.vm).sameButNew ({ U with vm := s.vm } : State) [] (0 + 1) (0 + 6) := ⟨e1, e2⟩
    have h3 := X.same.trans h2
    rw [List.append_nil] at h3
    exact h3.mono hc hs
  refine ⟨U, ?_, .threw T.heap.size, hrun, hend, Or.inr ⟨T.heap.size, rfl, cls, ce, locs, hx U hWs.alike f1 (fun q hq => f2 q hq (fun z hz => nomatch hz)), hce, hO.vm, hcl, hWs, hall, hf⟩⟩
  refine st1 _ ?_
  show Steps p.tables e below (T1.setTop { method := m, pc := pc + 3, locals := ls, stack := .ref T.heap.size :: rest, locked := none }) _
  jvm_step X₁.here [X₁.here.top, hexec, d3', Value.category]
  exact X₁.ldcString hexec (own := own) (text := text) (index := is) (a := sa) hown' hstr'.1 hstr'.2
    (g := { method := m, pc := pc + 4, locals := ls, stack := .ref T.heap.size :: .ref T.heap.size :: rest, locked := none }) rfl d4' _ hsteps
/-- 'throw new E("text")', the text by a wide index -/
theorem vx_throwSW {cc : ByteArray} {pc : Nat} (hexec : p.tables.exec = Jvm.exec) (hb : c.code = cc) (hl : l.stackTraces = false) {own cls text : String} {names : List String} {ik is ic mc ms sa : Nat} {A : Nat → Prop}
    (hown : s.vm.findClass own = some m.cls) (hcls : Bundle.fit cls = true) (hnames : ∀ n ∈ names, Bundle.fit n = true)
    (hk : (Cond.classLink own ik cls).before args s = true) (hini : (Cond.initialized cls).before args s = true) (hstr : vk_R own is text sa s) (hat : ∀ w ∈ vx_atS own ic cls names, w.before args s = true)
    (hgood : ∀ w ∈ Cond.classLink own ik cls :: Cond.initialized cls :: vx_atS own ic cls names, vx_ot w = true)
    (hU : vx_Zq Bundle.tN "UNASSIGNED_STACK" Bundle.steD A s s.heap) (hN : vx_Zq Bundle.tN "SUPPRESSED_SENTINEL" Bundle.listD A s s.heap) (hS : va_S A s.heap H locs) (hsize : ls.size = c.maxLocals)
    (d0 : decode cc pc = .ok (.new ik, 3)) (d3 : decode cc (pc + 3) = .ok (.dup, 1)) (d4 : decode cc (pc + 4) = .ok (.ldc_w is, 3)) (d7 : decode cc (pc + 7) = .ok (.invokespecial ic, 3)) (d10 : decode cc (pc + 10) = .ok (.athrow, 1))
    (hout : ∀ x ∈ c.exceptionTable.toList, covers x (pc + 10) = false)
    (hRframes : names.length + 3 < R.frames) (hRlocals : (rest.map fun v => v.category).sum + (13 * (names.length + 1) + 43) ≤ R.locals) (hRcells : cells + 1 ≤ R.cells) (hRslots : slots + 6 ≤ R.slots) (hlocks : meth.locks = false)
    (hx : ∀ t : State, s.vm.Alike t.vm → H.size ≤ t.heap.size → (∀ q : Nat, q < H.size → t.heap[q]? = H[q]?) → XC cls s t)
    (hf : ∀ z ∈ locs, free z.base) (hc : cells + 1 ≤ mc) (hs : slots + 6 ≤ ms) :
    W p l e R s m args below meth c H locs cells slots (vx_MQ below Qc XC args s mc ms free) (F0 m pc ls rest) := by
  intro T hT X
  have htr : e.platform.stackTraces = false := (show e.platform.stackTraces = l.stackTraces by rw [X.admits.platform]).trans hl
  have Y := vx_rebase X (R' := { frames := R.frames, locals := R.locals, cells := 1, slots := 6 }) (Nat.le_refl _) (Nat.le_refl _) hRcells hRslots
  obtain ⟨s', hA⟩ : ∃ z, z = (T.setVm s.vm).setFrames (.invoking m args :: below) := ⟨_, rfl⟩
  rw [← hA] at Y
  have hvm : s'.vm = s.vm := by rw [hA]; rfl
  have hhp : s'.heap = H := by rw [hA]; exact hT
  have hW0 : s.WarmedH s'.vm := by rw [hvm]; exact State.WarmedH.refl s
  have hat' : ∀ w ∈ vx_atS own ic cls names, w.before args s' = true := fun w hw => vx_ot_at hW0 hvm.symm (hgood w (List.mem_cons_of_mem _ (List.mem_cons_of_mem _ hw))) (hat w hw)
  have hk' : (Cond.classLink own ik cls).before args s' = true := vx_ot_at hW0 hvm.symm (hgood _ List.mem_cons_self) hk
  have hini' : (Cond.initialized cls).before args s' = true := vx_ot_at hW0 hvm.symm (hgood _ (List.mem_cons_of_mem _ List.mem_cons_self)) hini
  have hU' : vx_Zq Bundle.tN "UNASSIGNED_STACK" Bundle.steD A s' s'.heap := by rw [hhp]; exact vx_Zq.moved hW0.alike (hU.kept hS.2.1)
  have hN' : vx_Zq Bundle.tN "SUPPRESSED_SENTINEL" Bundle.listD A s' s'.heap := by rw [hhp]; exact vx_Zq.moved hW0.alike (hN.kept hS.2.1)
  have h : ∀ w ∈ Bundle.ownAtoms own ic cls names, w.before args s' = true := vx_own hat' (vx_isRefq hU'.1) (vx_isRefq hN'.1) hU'.2.word hN'.2.word
  have hown' : s'.vm.findClass own = some m.cls := by rw [hvm]; exact hown
  have hins : (Cond.instantiable cls 6).before args s' = true := h _ (by simp [Bundle.ownAtoms])
  obtain ⟨vm₁, cX, kX, hfX, hkX, -, -, X₁, st1⟩ := Y.newCold hexec (own := own) (C := cls) (index := ik) (n := 6) hown' hk' hins hini'
    (g := F0 m pc ls rest) rfl (by rw [hb]; exact d0) (Nat.le_refl _) (Nat.le_refl _)
  generalize hT1 : (T.setVm vm₁).pushCell { cls := cX, slots := kX.instanceTypes.map defaultValue, vm := .none } = T1 at X₁ st1
  have hcat : (Value.ref T.heap.size).category = 1 := rfl
  have hcellA : T1.heap[T.heap.size]? = some (freshCell cX kX) := by rw [← hT1]; exact State.heap_pushCell_size _ _
  have d3' : decode c.code (pc + 3) = .ok (.dup, 1) := by rw [hb]; exact d3
  have d4' : decode c.code (pc + 4) = .ok (.ldc_w is, 3) := by rw [hb]; exact d4
  have hstr' : vk_R own is text sa s' := vk_R.warm hW0 hstr
  obtain ⟨U, hsteps, hrun, hend, hW, hsame, ce, hce, hO⟩ := X₁.ctorThrowS hexec htr (own := own) (cls := cls) (names := names) (ic := ic) hown' hcls hnames h (fun x hx => nomatch hx) hfX hkX hcellA (by rw [hhp, hT]; exact Nat.le_refl _) (msg := .ref sa) rfl
    (g := { method := m, pc := pc + 7, locals := ls, stack := .ref sa :: .ref T.heap.size :: .ref T.heap.size :: rest, locked := none }) rfl hsize rfl rfl (rest := rest) rfl
    (by rw [hb]; exact d7) (by rw [hb]; exact d10) hout hRframes (by simp only [List.map_cons, List.sum_cons, hcat]; omega) hlocks
  obtain ⟨f1, f2⟩ := vx_frame hsame
  rw [hhp] at f1 f2
  have hWs : s.WarmedH U.vm := State.WarmedH.trans hW0 hW
  have hcl : s.vm.findClass cls = some ce.cls := by
    have h9 := hO.cls
    rw [hvm] at h9
    exact h9
  have hall : s.sameButNew ({ U with vm := s.vm } : State) locs mc ms := by
    subst hA
    obtain ⟨e1, e2⟩ := hsame
    rw [State.setFrames_setFrames] at e1
    have h2 : (T.setVm s.vm).sameButNew ({ U with vm := s.vm } : State) [] (0 + 1) (0 + 6) := ⟨e1, e2⟩
    have h3 := X.same.trans h2
    rw [List.append_nil] at h3
    exact h3.mono hc hs
  refine ⟨U, ?_, .threw T.heap.size, hrun, hend, Or.inr ⟨T.heap.size, rfl, cls, ce, locs, hx U hWs.alike f1 (fun q hq => f2 q hq (fun z hz => nomatch hz)), hce, hO.vm, hcl, hWs, hall, hf⟩⟩
  refine st1 _ ?_
  show Steps p.tables e below (T1.setTop { method := m, pc := pc + 3, locals := ls, stack := .ref T.heap.size :: rest, locked := none }) _
  jvm_step X₁.here [X₁.here.top, hexec, d3', Value.category]
  exact X₁.ldcStringW hexec (own := own) (text := text) (index := is) (a := sa) hown' hstr'.1 hstr'.2
    (g := { method := m, pc := pc + 4, locals := ls, stack := .ref T.heap.size :: .ref T.heap.size :: rest, locked := none }) rfl d4' _ hsteps
end Ends
section Bodies
variable {l : Launch}
theorem vx_ofW {y : MethodName} {ws ws' : List Cond} {rm : Room} {Pc : Array Value → State → Prop} {Qc : Array Value → State → Outcome → State → Prop} {XC : String → State → State → Prop} {mc ms : Nat} {free : Addr → Prop} {cc : ByteArray} {maxL : Nat} {ret : Option FieldType}
    (hy : plainName y.cls = true) (hw : ws = Cond.code y cc maxL ret :: ws')
    (body : ∀ p e s m args below meth c s₁, BodyLoose p l y (headSpec ws rm) cc maxL ret e s m args below meth c s₁ → c.maxLocals = maxL → (∀ x ∈ c.exceptionTable.toList, False) → Pc args s →
      W p l e (headSpec ws rm).room s m args below meth c s.heap [] 0 0 (vx_MQ below Qc XC args s mc ms free) (entryFrame m args maxL)) : vx_Met l y ws rm Pc Qc XC mc ms free := by
  refine MetFree.of_bodyS (code := cc) (maxLocals := maxL) (ret := ret) hy ?_ ?_
  · intro args s m h hn
    obtain ⟨meth, c, h1, h2, h3, h4, h5, h6, -, -⟩ := Cond.code_spec hn (atoms_spec (ws := ws) h _ (by rw [hw]; exact List.mem_cons_self))
    exact ⟨meth, c, h1, h2, h3, h4, h5, h6⟩
  · intro p e s m args below meth c s₁ B hml hP _
    have hh0 : s₁.heap = s.heap := by rw [B.state]; rfl
    have ht : ∀ x ∈ c.exceptionTable.toList, False := by
      obtain ⟨meth9, c9, h1, h2, -, -, -, -, h7, -⟩ := Cond.code_spec B.named (atoms_spec (ws := ws) B.pre _ (by rw [hw]; exact List.mem_cons_self))
      cases Option.some.inj (h1.symm.trans B.method)
      cases Option.some.inj (h2.symm.trans (Stand.of_body B).code)
      intro x hx
      rw [Array.isEmpty_iff.mp h7] at hx
      cases hx
    obtain ⟨t, a1, o, b1, b2, b3⟩ := body p e s m args below meth c s₁ B hml ht hP s₁ hh0 (Stand.of_body B)
    exact ⟨t, o, a1, b1, b2, b3⟩
/-- the table of a body with handlers -/
theorem vx_table {p : Program} {x y : MethodName} {S : Spec} {cc bytes : ByteArray} {maxL maxL' : Nat} {ret ret' : Option FieldType} {e : Env} {s s₁ : State} {m : MethodId} {args : Array Value} {below : List Frame} {meth : Method} {c : Code} {hh : List (Nat × Nat × Nat × Nat)}
    (B : BodyLoose p l y S cc maxL ret e s m args below meth c s₁) (h : (Cond.codeWith y bytes maxL' ret' hh).before args s = true) : c.exceptionTable.toList = tableOf hh := by
  obtain ⟨m9, meth9, c9, hn9, h1, h2, -, -, h6, -⟩ := Cond.codeWith_spec h
  cases Option.some.inj (hn9.symm.trans B.named)
  cases Option.some.inj (h1.symm.trans B.method)
  cases Option.some.inj (h2.symm.trans (Stand.of_body B).code)
  rw [← h6, table_eq]
end Bodies
end VXA
/-! ===== END ===== -/
/-! ===== BEGIN a static call of a method with an exception table ===== -/
section VXS
variable {p : Program} {l : Launch} {e : Env} {R : Room} {s : State} {m : MethodId} {args : Array Value} {below : List Frame} {meth : Method} {c : Code} {T : State} {H : Heap} {locs : List Loc} {cells slots : Nat}
abbrev vx_CSW (R : Room) (s : State) (args : Array Value) (own : String) (index : Nat) (y : MethodName) (bytes : ByteArray) (maxL : Nat) (ret : Option FieldType) (hh : List (Nat × Nat × Nat × Nat)) (ws : List Cond) (rm : Room) (mc ms n : Nat) : Prop :=
  (rm.cells = mc ∧ rm.slots = ms ∧ rm.frames + 1 ≤ R.frames ∧ 8 + (maxL + 11) + rm.locals ≤ R.locals ∧ (∀ w ∈ ws, ∀ (a' : Array Value) (U : State), s.WarmedH U.vm → w.before a' U = true) ∧ Cond.codeWith y bytes maxL ret hh ∈ ws) ∧
  (Cond.codeWith y bytes maxL ret hh).before args s = true ∧ (Cond.initialized y.cls).before args s = true ∧ (y.cls ≠ "java/lang/invoke/MethodHandle" ∧ y.cls ≠ "java/lang/invoke/VarHandle") ∧
  (∀ sig, parseMethodDescriptor y.desc = some sig → n = sig.parameters.length) ∧ (Cond.methodLink own index y).before args s = true ∧ (Cond.static y).before args s = true
theorem vx_cwSW {own : String} {index maxL mc ms : Nat} {y : MethodName} {bytes : ByteArray} {ret : Option FieldType} {hh : List (Nat × Nat × Nat × Nat)} {Ts ws ws' : List Cond} {rm : Room} (n : Nat) (ht : ∀ w ∈ Ts, w.before args s = true) (hT : GoodIn Ts (va_wsS own index y ws)) (hw : ws = Cond.codeWith y bytes maxL ret hh :: ws') (hrc : rm.cells = mc) (hrs : rm.slots = ms)
    (hd : y.cls ≠ "java/lang/invoke/MethodHandle" ∧ y.cls ≠ "java/lang/invoke/VarHandle" ∧ (parseMethodDescriptor y.desc).map (fun d => d.parameters.length) = some n) (hR : rm.frames + 1 ≤ R.frames ∧ 8 + (maxL + 11) + rm.locals ≤ R.locals) :
    vx_CSW R s args own index y bytes maxL ret hh ws rm mc ms n := by
  have ok : ∀ w ∈ va_wsS own index y ws, w.before args s = true := fun w h => ht w (hT w h).1
  have hG : GoodIn Ts ws := fun w h => hT w (by unfold va_wsS; exact List.mem_append_right _ h)
  have hc : Cond.codeWith y bytes maxL ret hh ∈ ws := by rw [hw]; exact List.mem_cons_self
  refine ⟨⟨hrc, hrs, hR.1, hR.2, pay_in ht hG, hc⟩, ht _ (hG _ hc).1, ok _ (by simp [va_wsS]), ⟨hd.1, hd.2.1⟩, fun sig h => ?_, ok _ (by simp [va_wsS]), ok _ (by simp [va_wsS])⟩
  have h2 := hd.2.2
  rw [h] at h2
  exact (Option.some.inj h2).symm
theorem vx_callSW (X : Stand p l e R s m args below meth c T locs cells slots) (hexec : p.tables.exec = Jvm.exec) {own : String} {index : Nat} {y : MethodName} {bytes : ByteArray} {maxL : Nat} {ret : Option FieldType} {hh : List (Nat × Nat × Nat × Nat)}
    (hown : s.vm.findClass own = some m.cls) (hlink : (Cond.methodLink own index y).before args s = true) (hstat : (Cond.static y).before args s = true) (hinit : (Cond.initialized y.cls).before args s = true)
    (hcode : (Cond.codeWith y bytes maxL ret hh).before args s = true) (hy : y.cls ≠ "java/lang/invoke/MethodHandle" ∧ y.cls ≠ "java/lang/invoke/VarHandle")
    {W9 : Nat} {Pre : Pt → Array Value → Prop} {Post : Pt → Array Value → Option Value → Pt → Prop} (hK : Back l R p e below s args y 3 W9 Pre Post)
    {g : JFrame} (hg : g.method = m) (hsize : g.locals.size = c.maxLocals) {argsL rest : List Value} (hlen : ∀ sig, parseMethodDescriptor y.desc = some sig → argsL.length = sig.parameters.length)
    (hstack : g.stack = argsL.reverse ++ rest) (hW : 2 * g.monitorRoom + (rest.map fun v => v.category).sum ≤ W9) (hdg : decode c.code g.pc = .ok (.invokestatic index, 3))
    (hpre : ∀ vm₁, s.WarmedH vm₁ → Pre ⟨T.setVm vm₁, locs, cells, slots⟩ argsL.toArray) :
    ∃ (v : Option Value) (vm₁ : Vm) (B : Pt), s.WarmedH vm₁ ∧ Stand p l e R s m args below meth c B.U B.locs B.cells B.slots ∧ Post ⟨T.setVm vm₁, locs, cells, slots⟩ argsL.toArray v B ∧
      ∀ target, Steps p.tables e below (B.U.setTop { g with pc := g.pc + 3, stack := v.toList ++ rest }) target → Steps p.tables e below (T.setTop g) target := by
  obtain ⟨mk, methM, cM, hnamed, hmethM, -, -, -, -, -, -, hsigM⟩ := Cond.codeWith_spec hcode
  have hstatic : methM.isStatic = true := Cond.static_spec hnamed hmethM hstat
  obtain ⟨kP, hkP, -⟩ := className_of_methodNamed hnamed
  have hinitP : kP.init = .initialized := Cond.initialized_spec (findClass_of_methodNamed hnamed) hkP hinit
  obtain ⟨vm₁, X₁, hstep₁⟩ := X.invokestatic hexec hown hlink hnamed hmethM hstatic hkP hinitP hy (g := g) hg (argsL := argsL) (rest := rest) (hlen _ hsigM) hstack hdg
  obtain ⟨v, B, X', hpost, hsteps⟩ := hK m meth c ⟨T.setVm vm₁, locs, cells, slots⟩ { g with stack := rest } (.invokestatic index) mk argsL.toArray X₁ hg hsize hdg hW (X₁.named hnamed) (hpre vm₁ X₁.warmed)
  exact ⟨v, vm₁, B, X₁.warmed, X', hpost, fun target h => hstep₁ _ fun acts => by rw [doInvoke_state]; exact hsteps.trans h⟩
theorem vx_runSW {y : MethodName} {bytes cc : ByteArray} {maxL nL mc ms n index : Nat} {ret : Option FieldType} {hh : List (Nat × Nat × Nat × Nat)} {ws : List Cond} {rm : Room} {Pc : Array Value → State → Prop} {Qc : Array Value → State → Outcome → State → Prop} {free : Addr → Prop} {Ts : List Cond} {own : String} {As rest : List Value} {g : JFrame}
    (S : CallFix p m c cc nL s args Ts own) (hM : Met l y ws rm Pc Qc mc ms free) (cw : vx_CSW R s args own index y bytes maxL ret hh ws rm mc ms n) (hp : PreS s H Pc As)
    (hg : g.method = m) (hn : As.length = n) (hsize : g.locals.size = nL) (hstack : g.stack = As.reverse ++ rest) (hW : 2 * g.monitorRoom + (rest.map fun v => v.category).sum ≤ 8) (hdg : decode cc g.pc = .ok (.invokestatic index, 3)) (hf : cells + mc ≤ R.cells ∧ slots + ms ≤ R.slots) :
    va_Run p l e R s m args below meth c H locs cells slots mc ms g rest (Qc As.toArray) (free) := by
  obtain ⟨⟨hrc, hrs, hfr, hlo, hws, hcw⟩, hcode, hini, hy, hlen, hl, hstt⟩ := cw
  have hK : Back l R p e below s args y 3 8 (PreOf R mc ms Pc) (PostOf Qc mc ms free) := va_backW (hh := hh) (bytes := bytes) (maxL := maxL) (ret := ret) hM hp.1 hrc hrs hfr hlo hws hcw (fun a' U hW => word_at hW (Or.inl (by first | rfl | simp [Cond.onTables, Cond.keeps, Cond.steady])) hini)
  obtain ⟨hx, hb, hml, ho, -⟩ := S
  intro T hT X
  obtain ⟨v, vm₁, ⟨U', l2, c2, s2⟩, hW₁, X', ⟨g', mk, t, L, e1, e2, hq, h1, hL, h2, h3⟩, st⟩ := vx_callSW X hx (hh := hh) (bytes := bytes) (maxL := maxL) (ret := ret) ho hl hstt hini hcode hy hK hg (hsize.trans hml.symm) (argsL := As) (rest := rest) (fun sig h => hn.trans (hlen sig h)) hstack hW (by rw [hb]; exact hdg)
    (fun vm₁ hW₁ => ⟨hf.1, hf.2, hp.2 (T.setVm vm₁) hT hW₁⟩)
  dsimp only [Pt.U, Pt.locs, Pt.cells, Pt.slots] at X' e1 e2 h1 h2 h3 st
  subst h1; subst h2; subst h3
  exact ⟨v, (T.setVm vm₁).calling g' mk As.toArray, t, U', L, hT, X', hL, e1, e2, hq, st⟩
/-- not caught here, past rows that name other classes: it goes on to the caller -/
theorem vx_outP {p : Program} {l : Launch} {e : Env} {R : Room} {s : State} {m : MethodId} {args : Array Value} {below : List Frame} {meth : Method} {c : Code} {H : Heap} {locs : List Loc} {cells slots : Nat} {free : Addr → Prop} {ls : Array Slot} {rest : List Value} {Qc : Array Value → State → Outcome → State → Prop} {XC : String → State → State → Prop}
    {pc : Nat} {own E : String} {ce : Cell} {q : Addr} {mc ms : Nat} (hown : s.vm.findClass own = some m.cls) (hlocks : meth.locks = false)
    (hpass : ∀ z ∈ c.exceptionTable.toList, covers z pc = false ∨ (z.catchType ≠ 0 ∧ ∃ nm : String, (Cond.classLink own z.catchType nm).before args s = true ∧ va_Nc E nm s)) (hcell : H[q]? = some ce) (hv : ce.vm = .none) (hcl : s.vm.findClass E = some ce.cls)
    (hx : ∀ t : State, t.heap = H → s.vm.Alike t.vm → XC E s t) (hf : ∀ z ∈ locs, free z.base) (hc : cells ≤ mc) (hs : slots ≤ ms) :
    vx_W p l e R s m args below meth c H locs cells slots (vx_MQ below Qc XC args s mc ms free) (F0 m pc ls rest) q := by
  intro T hT X
  have hpl : e.platform.magicAccessors = ({} : Platform).magicAccessors := by rw [X.admits.platform]
  obtain ⟨vm', hW', X', st⟩ := X.outThrough hlocks q (g := F0 m pc ls rest) rfl rfl rfl (cell := ce) (by rw [hT]; exact hcell) (by rw [hv]; rfl)
    (by obtain ⟨k9, h9, -⟩ := Vm.findClass_spec hcl; exact ⟨k9, h9⟩) (fun z hz => by
      rcases hpass z hz with h | ⟨hz0, nm, hl1, hn1⟩
      · exact Or.inl h
      · obtain ⟨c6, hc6, hcl6⟩ := Cond.classLink_spec hown hl1 e.platform hpl
        obtain ⟨a8, b8, h1, h2, h3⟩ := hn1
        cases Option.some.inj (h1.symm.trans hcl)
        cases Option.some.inj (h2.symm.trans hc6)
        exact Or.inr ⟨hz0, _, hcl6, h3⟩)
  obtain ⟨g₀, hfr⟩ := X'.frames_eq
  have hcell9 : ((T.setVm vm').setFrames (.throwing q :: below)).heap[q]? = some ce := by
    show T.heap[q]? = some ce
    rw [hT]; exact hcell
  have hend : Ended ((T.setVm vm').setFrames (.throwing q :: below)) below (.threw q) := State.frames_setFrames _ (State.cur_lt_of_frames hfr)
  refine ⟨(T.setVm vm').setFrames (.throwing q :: below), ?_, .threw q, X'.here.running, hend, Or.inr ⟨q, rfl, E, ce, locs, hx _ hT (X'.ends _).1.alike, hcell9, hv, hcl, (X'.ends _).1, (X'.ends _).2.mono hc hs, hf⟩⟩
  rw [X.pushThrowing_eq]
  exact st
/-- a thing of a world lies in the heap -/
theorem vx_lt {D : va_G} {cl : List vw_C} {ws : va_W} {H1 : Heap} (h : va_P D cl ws H1) {k : Nat} {q : Nat × va_E} (hk : ws[k]? = some q) : q.1 < H1.size := (h k q hk).lt
end VXS
/-! ===== END ===== -/
/-! ===== BEGIN methods with a table of their own: called by a name, returning or throwing ===== -/
section VXH
/-! vx_backW, vx_callVX, vx_callSX, vx_callVW, vx_runVW, vx_runVX, vx_runSX, vx_ofWH follow the same proofs as their sisters above (Free/Laws.lean, Shelf42/LK1.lean); vx_outP calls Shelf42/NT130.lean (outThrough). -/
section
variable {l : Launch} {R : Room} {p : Program} {e : Env} {below : List Frame} {s : State} {sargs : Array Value} {y : MethodName} {len W9 : Nat}
theorem vx_backW {ws : List Cond} {rm : Room} {Pc : Array Value → State → Prop} {Qc : Array Value → State → Outcome → State → Prop} {XC : String → State → State → Prop} {mc ms : Nat} {free : Addr → Prop} {bytes : ByteArray} {maxL : Nat} {ret : Option FieldType} {hh : List (Nat × Nat × Nat × Nat)}
    (hM : vx_Met l y ws rm Pc Qc XC mc ms free) (hblind : FrameBlind Pc) (hrc : rm.cells = mc) (hrs : rm.slots = ms)
    (hframes : rm.frames + 1 ≤ R.frames) (hlocals : W9 + (maxL + 11) + rm.locals ≤ R.locals)
    (hws : ∀ w ∈ ws, ∀ a' U, s.WarmedH U.vm → w.before a' U = true) (hcode : Cond.codeWith y bytes maxL ret hh ∈ ws) (hinit : ∀ a' U, s.WarmedH U.vm → (Cond.initialized y.cls).before a' U = true) :
    vx_Back l R p e below s sargs y len W9 (PreOf R mc ms Pc) (PostOf Qc mc ms free) (vx_Post XC mc ms free) := by
  intro m meth c A g ig mk a X hg hsize hdg hW hn hp
  have h1 : (headSpec ws rm).pre.before a A.U = true := atoms_intro fun w hw => hws w hw _ _ X.warmed
  have h2 : (Cond.codeWith y bytes maxL ret hh).before a A.U = true := hws _ hcode _ _ X.warmed
  have h3 : (Cond.initialized y.cls).before a A.U = true := hinit _ _ X.warmed
  have h4 : A.cells + (headSpec ws rm).room.cells ≤ R.cells := by rw [show (headSpec ws rm).room.cells = mc from hrc]; exact hp.1
  have h5 : A.slots + (headSpec ws rm).room.slots ≤ R.slots := by rw [show (headSpec ws rm).room.slots = ms from hrs]; exact hp.2.1
  have hPc : Pc a (A.U.calling g mk a) := hblind _ _ _ _ hp.2.2
  obtain ⟨U, Ls, c0, s0⟩ := A
  dsimp only [Pt.U, Pt.locs, Pt.cells, Pt.slots] at h1 h2 h3 h4 h5 X hn hPc ⊢
  obtain ⟨m9, methY, cY, hn9, hmY, hcY, -, hlY, -⟩ := Cond.codeWith_spec h2
  cases Option.some.inj (hn9.symm.trans hn)
  obtain ⟨kY, hkY, -⟩ := className_of_methodNamed hn
  have hinitY : kY.init = .initialized := Cond.initialized_spec (findClass_of_methodNamed hn) hkY h3
  have h : At U g.method c below := by rw [hg]; exact X.here
  have hlocals9 : W9 + (maxL + 11) + (headSpec ws rm).room.locals ≤ R.locals := hlocals
  have happ : (headSpec ws rm).appliesLoose y e.platform (U.calling g mk a) = true :=
    Spec.appliesLoose_calling (g := g) h hdg hn hkY hinitY
      (X.room_calling (g := g) (R' := (headSpec ws rm).room) hsize hmY hcY hframes (by rw [hlY]; omega) h4 h5) h1
  obtain ⟨mid, hmid⟩ := h.above
  have hfr : (U.setTop g).frames = (.java g :: mid) ++ below := by rw [State.frames_setTop' g h.top, hmid]; rfl
  obtain ⟨o, s₂, hsteps, -, hend, hq⟩ := Steps.callFree hM p X.admits X.cas X.clock (acts := []) hfr happ hPc trivial
  have hq' : vx_Q Qc XC mc ms free a (U.calling g mk a) o s₂ := hq
  rw [State.frames_setTop' g h.top] at hend
  obtain ⟨g₀, hg0⟩ := Option.isSome_iff_exists.mp h.top
  obtain ⟨r, hr⟩ := State.topJava?_eq_some.mp hg0
  have hr' : (({ U with heap := s₂.heap, slotsUsed := s₂.slotsUsed } : State).setVm s₂.vm).frames = .java g₀ :: r := hr
  rcases hq' with ⟨hqc, L, hfe, hL⟩ | ⟨q, rfl, E, ce, L, hx, hce, hcv, hcl, hW₂, hsm, hL⟩
  · obtain ⟨⟨v, rfl⟩, hW₂, e2, q2, q3, q4, q5, q6⟩ := id hfe
    have e3 : s₂ = ({ (U.calling g mk a).setFrames s₂.frames with heap := s₂.heap, slotsUsed := s₂.slotsUsed } : State).setVm s₂.vm := by
      have : s₂ = ({ s₂ with vm := (U.calling g mk a).vm } : State).setVm s₂.vm := rfl
      rw [e2] at this
      exact this
    obtain ⟨c₂, i₂, len₂, hc₂, hd₂, hf₂⟩ := hend
    have hW' : U.WarmedH s₂.vm := hW₂
    have hcc : c₂ = c := by
      have h1 : s₂.code? g.method = U.code? g.method := by
        rw [State.code?_eq, State.code?_eq, hW'.alike.method?]
      exact Option.some.inj (hc₂.symm.trans (h1.trans h.code))
    subst hcc
    have hlen : len₂ = len := by rw [hdg] at hd₂; cases hd₂; rfl
    subst hlen
    have hs₂ : s₂ = (({ U with heap := s₂.heap, slotsUsed := s₂.slotsUsed } : State).setVm s₂.vm).setTop { g with pc := g.pc + len₂, stack := v.toList ++ g.stack } := by
      refine e3.trans ?_
      rw [hf₂, State.calling_eq h.top, State.setFrames_setFrames, State.setTop_of_frames _ hr', hr]
      rfl
    have hsame : U.sameButNew ({ U with heap := s₂.heap, slotsUsed := s₂.slotsUsed } : State) L mc ms := by
      refine ⟨?_, q2, q3, q4, q5, q6⟩
      obtain ⟨t, ht, -⟩ := State.frames_cons hr
      show ({ U with heap := s₂.heap, slotsUsed := s₂.slotsUsed } : State) = { U.setFrames U.frames with heap := s₂.heap, slotsUsed := s₂.slotsUsed }
      rw [State.setFrames_self ht]
    subst hg
    refine Or.inl ⟨v, ⟨(({ U with heap := s₂.heap, slotsUsed := s₂.slotsUsed } : State).setVm s₂.vm), Ls ++ L, c0 + mc, s0 + ms⟩,
      ⟨X.admits, X.cas, X.clock, X.frames, X.room, X.hears, X.method, X.code, (X.here.setHeapUsed s₂.heap s₂.slotsUsed).setVm hW'.alike, X.tail, State.WarmedH.trans X.warmed hW', X.limits, X.bytes, X.same.trans (hsame.setVm s.vm)⟩,
      ⟨g, mk, s₂, L, rfl, rfl, hqc, rfl, hL, rfl, rfl⟩, ?_⟩
    show Steps p.tables e below _ ((({ U with heap := s₂.heap, slotsUsed := s₂.slotsUsed } : State).setVm s₂.vm).setTop { g with pc := g.pc + len₂, stack := v.toList ++ g.stack })
    rw [← hs₂]
    exact hsteps
  · obtain ⟨e2, q2, q3, q4, q5, q6⟩ := id hsm
    have e3 : s₂ = ({ (U.calling g mk a).setFrames s₂.frames with heap := s₂.heap, slotsUsed := s₂.slotsUsed } : State).setVm s₂.vm := by
      have : s₂ = ({ s₂ with vm := (U.calling g mk a).vm } : State).setVm s₂.vm := rfl
      rw [e2] at this
      exact this
    have hf₂ : s₂.frames = .throwing q :: .java g :: U.frames.tail := hend
    have hW' : U.WarmedH s₂.vm := hW₂
    have hs₂ : s₂ = ((({ U with heap := s₂.heap, slotsUsed := s₂.slotsUsed } : State).setVm s₂.vm).setTop g).pushFrame (.throwing q) := by
      refine e3.trans ?_
      rw [hf₂, State.calling_eq h.top, State.setFrames_setFrames, State.pushFrame, State.frames_setTop _ hr', State.setTop_of_frames _ hr', State.setFrames_setFrames, hr]
      rfl
    have hsame : U.sameButNew ({ U with heap := s₂.heap, slotsUsed := s₂.slotsUsed } : State) L mc ms := by
      refine ⟨?_, q2, q3, q4, q5, q6⟩
      obtain ⟨t, ht, -⟩ := State.frames_cons hr
      show ({ U with heap := s₂.heap, slotsUsed := s₂.slotsUsed } : State) = { U.setFrames U.frames with heap := s₂.heap, slotsUsed := s₂.slotsUsed }
      rw [State.setFrames_self ht]
    subst hg
    refine Or.inr ⟨q, ⟨(({ U with heap := s₂.heap, slotsUsed := s₂.slotsUsed } : State).setVm s₂.vm), Ls ++ L, c0 + mc, s0 + ms⟩,
      ⟨X.admits, X.cas, X.clock, X.frames, X.room, X.hears, X.method, X.code, (X.here.setHeapUsed s₂.heap s₂.slotsUsed).setVm hW'.alike, X.tail, State.WarmedH.trans X.warmed hW', X.limits, X.bytes, X.same.trans (hsame.setVm s.vm)⟩,
      ⟨g, mk, s₂, L, E, ce, rfl, rfl, hx, hce, hcv, hcl, rfl, hL, rfl, rfl⟩, ?_⟩
    show Steps p.tables e below _ (((({ U with heap := s₂.heap, slotsUsed := s₂.slotsUsed } : State).setVm s₂.vm).setTop g).pushFrame (.throwing q))
    rw [← hs₂]
    exact hsteps
end
variable {p : Program} {l : Launch} {e : Env} {R : Room} {s : State} {m : MethodId} {args : Array Value} {below : List Frame} {meth : Method} {c : Code} {T : State} {H : Heap} {locs : List Loc} {cells slots : Nat}
theorem vx_callVX (X : Stand p l e R s m args below meth c T locs cells slots) (hexec : p.tables.exec = Jvm.exec) {own C : String} {index : Nat} {y : MethodName} {bytes : ByteArray} {maxL : Nat} {ret : Option FieldType} {hh : List (Nat × Nat × Nat × Nat)}
    (hown : s.vm.findClass own = some m.cls) (hlink : (Cond.methodLink own index y).before args s = true) (hinst : (Cond.instanceMethod y).before args s = true) (hsel : (Cond.selects C y y).before args s = true)
    (hcode : (Cond.codeWith y bytes maxL ret hh).before args s = true) (hy : y.cls ≠ "java/lang/invoke/MethodHandle" ∧ y.cls ≠ "java/lang/invoke/VarHandle")
    {W9 : Nat} {Pre : Pt → Array Value → Prop} {Post : Pt → Array Value → Option Value → Pt → Prop} {PostX : Pt → Array Value → Addr → Pt → Prop} (hK : vx_Back l R p e below s args y 3 W9 Pre Post PostX)
    {b : Addr} {cellB : Cell} (hcell : T.heap[b]? = some cellB) (hobj : cellB.vm.isStatics = false) (hcls : s.vm.findClass C = some cellB.cls)
    {g : JFrame} (hg : g.method = m) (hsize : g.locals.size = c.maxLocals) {argsL rest : List Value} (hlen : ∀ sig, parseMethodDescriptor y.desc = some sig → argsL.length = sig.parameters.length)
    (hstack : g.stack = argsL.reverse ++ .ref b :: rest) (hW : 2 * g.monitorRoom + (rest.map fun v => v.category).sum ≤ W9) (hdg : decode c.code g.pc = .ok (.invokevirtual index, 3))
    (hpre : ∀ vm₁, s.WarmedH vm₁ → Pre ⟨T.setVm vm₁, locs, cells, slots⟩ (Value.ref b :: argsL).toArray) :
    (∃ (v : Option Value) (vm₁ : Vm) (B : Pt), s.WarmedH vm₁ ∧ Stand p l e R s m args below meth c B.U B.locs B.cells B.slots ∧ Post ⟨T.setVm vm₁, locs, cells, slots⟩ (Value.ref b :: argsL).toArray v B ∧
      ∀ target, Steps p.tables e below (B.U.setTop { g with pc := g.pc + 3, stack := v.toList ++ rest }) target → Steps p.tables e below (T.setTop g) target) ∨
    (∃ (q : Addr) (vm₁ : Vm) (B : Pt), s.WarmedH vm₁ ∧ Stand p l e R s m args below meth c B.U B.locs B.cells B.slots ∧ PostX ⟨T.setVm vm₁, locs, cells, slots⟩ (Value.ref b :: argsL).toArray q B ∧
      Steps p.tables e below (T.setTop g) ((B.U.setTop { g with stack := rest }).pushFrame (.throwing q))) := by
  obtain ⟨mk, methM, hnamed, hmethM, hstM, habM⟩ := Cond.instanceMethod_spec hinst
  obtain ⟨m8, methM', cM, hn8, hmethM', -, -, -, -, -, -, hsigM⟩ := Cond.codeWith_spec hcode
  cases Option.some.inj (hn8.symm.trans hnamed)
  cases hmethM.symm.trans hmethM'
  obtain ⟨c2, r2, m2, q1, q2, q3, q4, kP, hkP, hkPi⟩ := Cond.selects_spec hsel
  cases hcls.symm.trans q1
  cases (State.methodFound?_of_named hnamed hy).symm.trans q2
  cases hnamed.symm.trans q3
  have hselP : selectMethod e.platform s.vm cellB.cls mk = .method mk := by rw [Launch.admits_selectMethod X.admits]; exact q4
  obtain ⟨vm₁, X₁, hstep₁⟩ := X.invokevirtual hexec hown hlink hnamed hmethM hstM hkP hkPi hy (a := b) (cell := cellB) hcell
    (fun z h => by rw [h] at hobj; cases hobj) hselP hmethM habM hkP hkPi (g := g) hg (argsL := argsL) (rest := rest) (hlen _ hsigM) hstack hdg
  rcases hK m meth c ⟨T.setVm vm₁, locs, cells, slots⟩ { g with stack := rest } (.invokevirtual index) mk (Value.ref b :: argsL).toArray X₁ hg hsize hdg hW (X₁.named hnamed) (hpre vm₁ X₁.warmed) with ⟨v, B, X', hpost, hsteps⟩ | ⟨q, B, X', hpost, hsteps⟩
  · exact Or.inl ⟨v, vm₁, B, X₁.warmed, X', hpost, fun target h => hstep₁ _ fun acts => by rw [doInvoke_state]; exact hsteps.trans h⟩
  · exact Or.inr ⟨q, vm₁, B, X₁.warmed, X', hpost, hstep₁ _ fun acts => by rw [doInvoke_state]; exact hsteps⟩
theorem vx_callSX (X : Stand p l e R s m args below meth c T locs cells slots) (hexec : p.tables.exec = Jvm.exec) {own : String} {index : Nat} {y : MethodName} {bytes : ByteArray} {maxL : Nat} {ret : Option FieldType} {hh : List (Nat × Nat × Nat × Nat)}
    (hown : s.vm.findClass own = some m.cls) (hlink : (Cond.methodLink own index y).before args s = true) (hstat : (Cond.static y).before args s = true) (hinit : (Cond.initialized y.cls).before args s = true)
    (hcode : (Cond.codeWith y bytes maxL ret hh).before args s = true) (hy : y.cls ≠ "java/lang/invoke/MethodHandle" ∧ y.cls ≠ "java/lang/invoke/VarHandle")
    {W9 : Nat} {Pre : Pt → Array Value → Prop} {Post : Pt → Array Value → Option Value → Pt → Prop} {PostX : Pt → Array Value → Addr → Pt → Prop} (hK : vx_Back l R p e below s args y 3 W9 Pre Post PostX)
    {g : JFrame} (hg : g.method = m) (hsize : g.locals.size = c.maxLocals) {argsL rest : List Value} (hlen : ∀ sig, parseMethodDescriptor y.desc = some sig → argsL.length = sig.parameters.length)
    (hstack : g.stack = argsL.reverse ++ rest) (hW : 2 * g.monitorRoom + (rest.map fun v => v.category).sum ≤ W9) (hdg : decode c.code g.pc = .ok (.invokestatic index, 3))
    (hpre : ∀ vm₁, s.WarmedH vm₁ → Pre ⟨T.setVm vm₁, locs, cells, slots⟩ argsL.toArray) :
    (∃ (v : Option Value) (vm₁ : Vm) (B : Pt), s.WarmedH vm₁ ∧ Stand p l e R s m args below meth c B.U B.locs B.cells B.slots ∧ Post ⟨T.setVm vm₁, locs, cells, slots⟩ argsL.toArray v B ∧
      ∀ target, Steps p.tables e below (B.U.setTop { g with pc := g.pc + 3, stack := v.toList ++ rest }) target → Steps p.tables e below (T.setTop g) target) ∨
    (∃ (q : Addr) (vm₁ : Vm) (B : Pt), s.WarmedH vm₁ ∧ Stand p l e R s m args below meth c B.U B.locs B.cells B.slots ∧ PostX ⟨T.setVm vm₁, locs, cells, slots⟩ argsL.toArray q B ∧
      Steps p.tables e below (T.setTop g) ((B.U.setTop { g with stack := rest }).pushFrame (.throwing q))) := by
  obtain ⟨mk, methM, cM, hnamed, hmethM, -, -, -, -, -, -, hsigM⟩ := Cond.codeWith_spec hcode
  have hstatic : methM.isStatic = true := Cond.static_spec hnamed hmethM hstat
  obtain ⟨kP, hkP, -⟩ := className_of_methodNamed hnamed
  have hinitP : kP.init = .initialized := Cond.initialized_spec (findClass_of_methodNamed hnamed) hkP hinit
  obtain ⟨vm₁, X₁, hstep₁⟩ := X.invokestatic hexec hown hlink hnamed hmethM hstatic hkP hinitP hy (g := g) hg (argsL := argsL) (rest := rest) (hlen _ hsigM) hstack hdg
  rcases hK m meth c ⟨T.setVm vm₁, locs, cells, slots⟩ { g with stack := rest } (.invokestatic index) mk argsL.toArray X₁ hg hsize hdg hW (X₁.named hnamed) (hpre vm₁ X₁.warmed) with ⟨v, B, X', hpost, hsteps⟩ | ⟨q, B, X', hpost, hsteps⟩
  · exact Or.inl ⟨v, vm₁, B, X₁.warmed, X', hpost, fun target h => hstep₁ _ fun acts => by rw [doInvoke_state]; exact hsteps.trans h⟩
  · exact Or.inr ⟨q, vm₁, B, X₁.warmed, X', hpost, hstep₁ _ fun acts => by rw [doInvoke_state]; exact hsteps⟩
theorem vx_callVW (X : Stand p l e R s m args below meth c T locs cells slots) (hexec : p.tables.exec = Jvm.exec) {own C : String} {index : Nat} {y : MethodName} {bytes : ByteArray} {maxL : Nat} {ret : Option FieldType} {hh : List (Nat × Nat × Nat × Nat)}
    (hown : s.vm.findClass own = some m.cls) (hlink : (Cond.methodLink own index y).before args s = true) (hinst : (Cond.instanceMethod y).before args s = true) (hsel : (Cond.selects C y y).before args s = true)
    (hcode : (Cond.codeWith y bytes maxL ret hh).before args s = true) (hy : y.cls ≠ "java/lang/invoke/MethodHandle" ∧ y.cls ≠ "java/lang/invoke/VarHandle")
    {W9 : Nat} {Pre : Pt → Array Value → Prop} {Post : Pt → Array Value → Option Value → Pt → Prop} (hK : Back l R p e below s args y 3 W9 Pre Post)
    {b : Addr} {cellB : Cell} (hcell : T.heap[b]? = some cellB) (hobj : cellB.vm.isStatics = false) (hcls : s.vm.findClass C = some cellB.cls)
    {g : JFrame} (hg : g.method = m) (hsize : g.locals.size = c.maxLocals) {argsL rest : List Value} (hlen : ∀ sig, parseMethodDescriptor y.desc = some sig → argsL.length = sig.parameters.length)
    (hstack : g.stack = argsL.reverse ++ .ref b :: rest) (hW : 2 * g.monitorRoom + (rest.map fun v => v.category).sum ≤ W9) (hdg : decode c.code g.pc = .ok (.invokevirtual index, 3))
    (hpre : ∀ vm₁, s.WarmedH vm₁ → Pre ⟨T.setVm vm₁, locs, cells, slots⟩ (Value.ref b :: argsL).toArray) :
    ∃ (v : Option Value) (vm₁ : Vm) (B : Pt), s.WarmedH vm₁ ∧ Stand p l e R s m args below meth c B.U B.locs B.cells B.slots ∧ Post ⟨T.setVm vm₁, locs, cells, slots⟩ (Value.ref b :: argsL).toArray v B ∧
      ∀ target, Steps p.tables e below (B.U.setTop { g with pc := g.pc + 3, stack := v.toList ++ rest }) target → Steps p.tables e below (T.setTop g) target := by
  obtain ⟨mk, methM, hnamed, hmethM, hstM, habM⟩ := Cond.instanceMethod_spec hinst
  obtain ⟨m8, methM', cM, hn8, hmethM', -, -, -, -, -, -, hsigM⟩ := Cond.codeWith_spec hcode
  cases Option.some.inj (hn8.symm.trans hnamed)
  cases hmethM.symm.trans hmethM'
  obtain ⟨c2, r2, m2, q1, q2, q3, q4, kP, hkP, hkPi⟩ := Cond.selects_spec hsel
  cases hcls.symm.trans q1
  cases (State.methodFound?_of_named hnamed hy).symm.trans q2
  cases hnamed.symm.trans q3
  have hselP : selectMethod e.platform s.vm cellB.cls mk = .method mk := by rw [Launch.admits_selectMethod X.admits]; exact q4
  obtain ⟨vm₁, X₁, hstep₁⟩ := X.invokevirtual hexec hown hlink hnamed hmethM hstM hkP hkPi hy (a := b) (cell := cellB) hcell
    (fun z h => by rw [h] at hobj; cases hobj) hselP hmethM habM hkP hkPi (g := g) hg (argsL := argsL) (rest := rest) (hlen _ hsigM) hstack hdg
  obtain ⟨v, B, X', hpost, hsteps⟩ := hK m meth c ⟨T.setVm vm₁, locs, cells, slots⟩ { g with stack := rest } (.invokevirtual index) mk (Value.ref b :: argsL).toArray X₁ hg hsize hdg hW (X₁.named hnamed) (hpre vm₁ X₁.warmed)
  exact ⟨v, vm₁, B, X₁.warmed, X', hpost, fun target h => hstep₁ _ fun acts => by rw [doInvoke_state]; exact hsteps.trans h⟩
abbrev vx_CVW (R : Room) (s : State) (args : Array Value) (own C : String) (index : Nat) (y : MethodName) (bytes : ByteArray) (maxL : Nat) (ret : Option FieldType) (hh : List (Nat × Nat × Nat × Nat)) (ws : List Cond) (rm : Room) (mc ms n : Nat) : Prop :=
  (rm.cells = mc ∧ rm.slots = ms ∧ rm.frames + 1 ≤ R.frames ∧ 8 + (maxL + 11) + rm.locals ≤ R.locals ∧ (∀ w ∈ ws, ∀ (a' : Array Value) (U : State), s.WarmedH U.vm → w.before a' U = true) ∧ Cond.codeWith y bytes maxL ret hh ∈ ws) ∧
  (Cond.codeWith y bytes maxL ret hh).before args s = true ∧ (Cond.initialized y.cls).before args s = true ∧ (y.cls ≠ "java/lang/invoke/MethodHandle" ∧ y.cls ≠ "java/lang/invoke/VarHandle") ∧
  (∀ sig, parseMethodDescriptor y.desc = some sig → n = sig.parameters.length) ∧ (Cond.methodLink own index y).before args s = true ∧ (Cond.instanceMethod y).before args s = true ∧ (Cond.selects C y y).before args s = true
theorem vx_cwVW {own C : String} {index maxL mc ms : Nat} {y : MethodName} {bytes : ByteArray} {ret : Option FieldType} {hh : List (Nat × Nat × Nat × Nat)} {Ts ws ws' : List Cond} {rm : Room} (n : Nat) (ht : ∀ w ∈ Ts, w.before args s = true) (hT : GoodIn Ts (wsV own index C y ws)) (hw : ws = Cond.codeWith y bytes maxL ret hh :: ws') (hrc : rm.cells = mc) (hrs : rm.slots = ms)
    (hd : y.cls = C ∧ y.cls ≠ "java/lang/invoke/MethodHandle" ∧ y.cls ≠ "java/lang/invoke/VarHandle" ∧ (parseMethodDescriptor y.desc).map (fun d => d.parameters.length) = some n) (hR : rm.frames + 1 ≤ R.frames ∧ 8 + (maxL + 11) + rm.locals ≤ R.locals) :
    vx_CVW R s args own C index y bytes maxL ret hh ws rm mc ms n := by
  obtain ⟨hC, hd⟩ := hd
  subst hC
  have ok : ∀ w ∈ wsV own index y.cls y ws, w.before args s = true := fun w h => ht w (hT w h).1
  have hG : GoodIn Ts ws := fun w h => hT w (by unfold wsV; exact List.mem_append_right _ h)
  have hc : Cond.codeWith y bytes maxL ret hh ∈ ws := by rw [hw]; exact List.mem_cons_self
  refine ⟨⟨hrc, hrs, hR.1, hR.2, pay_in ht hG, hc⟩, ht _ (hG _ hc).1, ok _ (by simp [wsV]), ⟨hd.1, hd.2.1⟩, fun sig h => ?_, ok _ (by simp [wsV]), ok _ (by simp [wsV]), ok _ (by simp [wsV])⟩
  have h2 := hd.2.2
  rw [h] at h2
  exact (Option.some.inj h2).symm
theorem vx_runVW {y : MethodName} {bytes cc : ByteArray} {maxL nL mc ms n index : Nat} {ret : Option FieldType} {hh : List (Nat × Nat × Nat × Nat)} {ws : List Cond} {rm : Room} {Pc : Array Value → State → Prop} {Qc : Array Value → State → Outcome → State → Prop} {free : Addr → Prop} {Ts : List Cond} {own C : String} {b : Addr} {As rest : List Value} {g : JFrame}
    (S : CallFix p m c cc nL s args Ts own) (hM : Met l y ws rm Pc Qc mc ms free) (cw : vx_CVW R s args own C index y bytes maxL ret hh ws rm mc ms n) (hp : PreV s H C b Pc As)
    (hg : g.method = m) (hn : As.length = n) (hsize : g.locals.size = nL) (hstack : g.stack = As.reverse ++ .ref b :: rest) (hW : 2 * g.monitorRoom + (rest.map fun v => v.category).sum ≤ 8) (hdg : decode cc g.pc = .ok (.invokevirtual index, 3)) (hf : cells + mc ≤ R.cells ∧ slots + ms ≤ R.slots) :
    va_Run p l e R s m args below meth c H locs cells slots mc ms g rest (Qc (Value.ref b :: As).toArray) free := by
  obtain ⟨⟨hrc, hrs, hfr, hlo, hws, hcw⟩, hcode, hini, hy, hlen, hl, hin, hse⟩ := cw
  have hK : Back l R p e below s args y 3 8 (PreOf R mc ms Pc) (PostOf Qc mc ms free) := va_backW (hh := hh) (bytes := bytes) (maxL := maxL) (ret := ret) hM hp.1 hrc hrs hfr hlo hws hcw (fun a' U hW => word_at hW (Or.inl (by first | rfl | simp [Cond.onTables, Cond.keeps, Cond.steady])) hini)
  obtain ⟨hx, hb, hml, ho, -⟩ := S
  obtain ⟨-, ⟨cellB, hcB, hoB, hclB⟩, hPc⟩ := hp
  intro T hT X
  obtain ⟨v, vm₁, ⟨U', l2, c2, s2⟩, hW₁, X', ⟨g', mk, t, L, e1, e2, hq, h1, hL, h2, h3⟩, st⟩ := vx_callVW X hx (C := C) (hh := hh) (bytes := bytes) (maxL := maxL) (ret := ret) ho hl hin hse hcode hy hK (by rw [hT]; exact hcB) hoB hclB hg (hsize.trans hml.symm) (argsL := As) (rest := rest) (fun sig h => hn.trans (hlen sig h)) hstack hW (by rw [hb]; exact hdg)
    (fun vm₁ hW₁ => ⟨hf.1, hf.2, hPc (T.setVm vm₁) hT hW₁⟩)
  dsimp only [Pt.U, Pt.locs, Pt.cells, Pt.slots] at X' e1 e2 h1 h2 h3 st
  subst h1; subst h2; subst h3
  exact ⟨v, (T.setVm vm₁).calling g' mk (Value.ref b :: As).toArray, t, U', L, hT, X', hL, e1, e2, hq, st⟩
section
variable {y : MethodName} {bytes cc : ByteArray} {maxL nL mc ms n index : Nat} {ret : Option FieldType} {ws : List Cond} {rm : Room} {Pc : Array Value → State → Prop} {Qc : Array Value → State → Outcome → State → Prop} {XC : String → State → State → Prop} {free : Addr → Prop} {Ts : List Cond} {own C : String} {b : Addr} {As rest : List Value} {g : JFrame}
theorem vx_runVX {hh : List (Nat × Nat × Nat × Nat)} (S : CallFix p m c cc nL s args Ts own) (hM : vx_Met l y ws rm Pc Qc XC mc ms free) (cw : vx_CVW R s args own C index y bytes maxL ret hh ws rm mc ms n) (hp : PreV s H C b Pc As)
    (hg : g.method = m) (hn : As.length = n) (hsize : g.locals.size = nL) (hstack : g.stack = As.reverse ++ .ref b :: rest) (hW : 2 * g.monitorRoom + (rest.map fun v => v.category).sum ≤ 8) (hdg : decode cc g.pc = .ok (.invokevirtual index, 3)) (hf : cells + mc ≤ R.cells ∧ slots + ms ≤ R.slots) :
    vx_Run p l e R s m args below meth c H locs cells slots mc ms g rest (Qc (Value.ref b :: As).toArray) XC free := by
  obtain ⟨⟨hrc, hrs, hfr, hlo, hws, hcw⟩, hcode, hini, hy, hlen, hl, hin, hse⟩ := cw
  have hK : vx_Back l R p e below s args y 3 8 (PreOf R mc ms Pc) (PostOf Qc mc ms free) (vx_Post XC mc ms free) := vx_backW (hh := hh) (bytes := bytes) (maxL := maxL) (ret := ret) hM hp.1 hrc hrs hfr hlo hws hcw (fun a' U hW => word_at hW (Or.inl (by first | rfl | simp [Cond.onTables, Cond.keeps, Cond.steady])) hini)
  obtain ⟨hx, hb, hml, ho, -⟩ := S
  obtain ⟨-, ⟨cellB, hcB, hoB, hclB⟩, hPc⟩ := hp
  intro T hT X
  rcases vx_callVX X hx (C := C) (hh := hh) (bytes := bytes) (maxL := maxL) (ret := ret) ho hl hin hse hcode hy hK (by rw [hT]; exact hcB) hoB hclB hg (hsize.trans hml.symm) (argsL := As) (rest := rest) (fun sig h => hn.trans (hlen sig h)) hstack hW (by rw [hb]; exact hdg)
    (fun vm₁ hW₁ => ⟨hf.1, hf.2, hPc (T.setVm vm₁) hT hW₁⟩) with ⟨v, vm₁, ⟨U', l2, c2, s2⟩, hW₁, X', ⟨g', mk, t, L, e1, e2, hq, h1, hL, h2, h3⟩, st⟩ | ⟨q, vm₁, ⟨U', l2, c2, s2⟩, hW₁, X', ⟨g', mk, t, L, E, ce, e1, e2, hq, hce, hcv, hcl, h1, hL, h2, h3⟩, st⟩
  · dsimp only [Pt.U, Pt.locs, Pt.cells, Pt.slots] at X' e1 e2 h1 h2 h3 st
    subst h1; subst h2; subst h3
    exact Or.inl ⟨v, (T.setVm vm₁).calling g' mk (Value.ref b :: As).toArray, t, U', L, hT, X', hL, e1, e2, hq, st⟩
  · dsimp only [Pt.U, Pt.locs, Pt.cells, Pt.slots] at X' e1 e2 h1 h2 h3 st hcl
    subst h1; subst h2; subst h3
    exact Or.inr ⟨q, (T.setVm vm₁).calling g' mk (Value.ref b :: As).toArray, t, U', L, E, ce, hT, X', hL, e1, e2, hq, hce, hcv, vx_cls hW₁ hcl, st⟩
theorem vx_runSX {hh : List (Nat × Nat × Nat × Nat)} (S : CallFix p m c cc nL s args Ts own) (hM : vx_Met l y ws rm Pc Qc XC mc ms free) (cw : vx_CSW R s args own index y bytes maxL ret hh ws rm mc ms n) (hp : PreS s H Pc As)
    (hg : g.method = m) (hn : As.length = n) (hsize : g.locals.size = nL) (hstack : g.stack = As.reverse ++ rest) (hW : 2 * g.monitorRoom + (rest.map fun v => v.category).sum ≤ 8) (hdg : decode cc g.pc = .ok (.invokestatic index, 3)) (hf : cells + mc ≤ R.cells ∧ slots + ms ≤ R.slots) :
    vx_Run p l e R s m args below meth c H locs cells slots mc ms g rest (Qc As.toArray) XC free := by
  obtain ⟨⟨hrc, hrs, hfr, hlo, hws, hcw⟩, hcode, hini, hy, hlen, hl, hstt⟩ := cw
  have hK : vx_Back l R p e below s args y 3 8 (PreOf R mc ms Pc) (PostOf Qc mc ms free) (vx_Post XC mc ms free) := vx_backW (hh := hh) (bytes := bytes) (maxL := maxL) (ret := ret) hM hp.1 hrc hrs hfr hlo hws hcw (fun a' U hW => word_at hW (Or.inl (by first | rfl | simp [Cond.onTables, Cond.keeps, Cond.steady])) hini)
  obtain ⟨hx, hb, hml, ho, -⟩ := S
  intro T hT X
  rcases vx_callSX X hx (hh := hh) (bytes := bytes) (maxL := maxL) (ret := ret) ho hl hstt hini hcode hy hK hg (hsize.trans hml.symm) (argsL := As) (rest := rest) (fun sig h => hn.trans (hlen sig h)) hstack hW (by rw [hb]; exact hdg)
    (fun vm₁ hW₁ => ⟨hf.1, hf.2, hp.2 (T.setVm vm₁) hT hW₁⟩) with ⟨v, vm₁, ⟨U', l2, c2, s2⟩, hW₁, X', ⟨g', mk, t, L, e1, e2, hq, h1, hL, h2, h3⟩, st⟩ | ⟨q, vm₁, ⟨U', l2, c2, s2⟩, hW₁, X', ⟨g', mk, t, L, E, ce, e1, e2, hq, hce, hcv, hcl, h1, hL, h2, h3⟩, st⟩
  · dsimp only [Pt.U, Pt.locs, Pt.cells, Pt.slots] at X' e1 e2 h1 h2 h3 st
    subst h1; subst h2; subst h3
    exact Or.inl ⟨v, (T.setVm vm₁).calling g' mk As.toArray, t, U', L, hT, X', hL, e1, e2, hq, st⟩
  · dsimp only [Pt.U, Pt.locs, Pt.cells, Pt.slots] at X' e1 e2 h1 h2 h3 st hcl
    subst h1; subst h2; subst h3
    exact Or.inr ⟨q, (T.setVm vm₁).calling g' mk As.toArray, t, U', L, E, ce, hT, X', hL, e1, e2, hq, hce, hcv, vx_cls hW₁ hcl, st⟩
end
end VXH
theorem vx_ofWH {l : Launch} {y : MethodName} {ws ws' : List Cond} {rm : Room} {Pc : Array Value → State → Prop} {Qc : Array Value → State → Outcome → State → Prop} {XC : String → State → State → Prop} {mc ms : Nat} {free : Addr → Prop} {cc : ByteArray} {maxL : Nat} {ret : Option FieldType} {hh : List (Nat × Nat × Nat × Nat)}
    (hy : plainName y.cls = true) (hw : ws = Cond.codeWith y cc maxL ret hh :: ws')
    (body : ∀ p e s m args below meth c s₁, BodyLoose p l y (headSpec ws rm) cc maxL ret e s m args below meth c s₁ → c.maxLocals = maxL → Pc args s →
      W p l e (headSpec ws rm).room s m args below meth c s.heap [] 0 0 (vx_MQ below Qc XC args s mc ms free) (entryFrame m args maxL)) : vx_Met l y ws rm Pc Qc XC mc ms free := by
  refine MetFree.of_bodyS (code := cc) (maxLocals := maxL) (ret := ret) hy ?_ ?_
  · intro args s m h hn
    obtain ⟨m9, meth, c, hn9, h1, h2, h3, h4, -, h5, h6, -⟩ := Cond.codeWith_spec (atoms_spec (ws := ws) h _ (by rw [hw]; exact List.mem_cons_self))
    cases hn.symm.trans hn9
    exact ⟨meth, c, h1, h2, h3, h4, h5, h6⟩
  · intro p e s m args below meth c s₁ B hml hP _
    have hh0 : s₁.heap = s.heap := by rw [B.state]; rfl
    obtain ⟨t, a1, o, b1, b2, b3⟩ := body p e s m args below meth c s₁ B hml hP s₁ hh0 (Stand.of_body B)
    exact ⟨t, o, a1, b1, b2, b3⟩
/-! ===== END ===== -/
/-! ===== BEGIN what the machine throws by itself, no traces kept ===== -/
section VXM
set_option maxHeartbeats 1000000 in
/-- the machine throws cls with the message text, no traces kept: from its note over the frame g to 'throwing' over the same frame (follows the proofs of Stand.vmThrowsMessage, Shelf/KitTracedVmS.lean, and Stand.throwsMessageColdBareV, StandMessageColdV.lean, without the step out of the frame) -/
theorem vx_vmAt {p : Program} {l : Launch} {e : Env} {R : Room} {s : State} {m₀ : MethodId} {args : Array Value} {below : List Frame} {meth : Method} {c : Code} {W : State} {locs : List Loc} {cells slots : Nat}
    (X : Stand p l e R s m₀ args below meth c W locs cells slots) (hexec : p.tables.exec = Jvm.exec) (htr : e.platform.stackTraces = false) {cls : String} {names : List String} {text : String}
    (hcls : Bundle.fit cls = true) (hnames : ∀ n ∈ names, Bundle.fit n = true) (hsoe : (cls == "java/lang/StackOverflowError") = false) (hoom : (cls == "java/lang/OutOfMemoryError") = false)
    (h : ∀ a ∈ Bundle.messageArmAtoms cls names, a.before args s = true)
    (hlocs : ∀ x ∈ locs, ∀ cell, s.heap[x.base]? = some cell → cell.vm.isStatics = false)
    (htext : (text == notModelled) = false) (hlimit : ¬ (stringBytes (stringToUtf16 text)).size > e.platform.arrayLengthLimit) (hheap : ¬ (stringBytes (stringToUtf16 text)).size * componentBytes .byte > e.platform.maxHeapBytes)
    {g : JFrame} (hg : g.method = m₀) (hsize : g.locals.size = c.maxLocals)
    (hRframes : names.length + 4 < R.frames) (hRlocals : 2 * g.monitorRoom + (g.stack.map fun v => v.category).sum + 10240 ≤ R.locals) (hshort : 13 * names.length + 55 ≤ 10240)
    (hRcells : cells + 3 ≤ R.cells) (hRslots : slots + ((stringBytes (stringToUtf16 text)).size + 4 + 6) ≤ R.slots) (hlocks : meth.locks = false) :
    ∃ (S : State) (q : Addr) (ce : Cell), (∀ target, Steps p.tables e below ((S.setTop g).pushFrame (.throwing q)) target → Steps p.tables e below ((W.setTop g).pushFrame (.throwNew cls (some text) none)) target) ∧
      Stand p l e R s m₀ args below meth c S locs (cells + 3) (slots + ((stringBytes (stringToUtf16 text)).size + 4 + 6)) ∧ S.heap[q]? = some ce ∧ s.vm.findClass cls = some ce.cls ∧ ce.vm = .none := by
  have howns : e.platform.frameOwnsMonitors = true := by rw [X.admits.platform]
  have hfin : e.platform.finalization = false := by rw [X.admits.platform]
  have hpl : e.platform.magicAccessors = ({} : Platform).magicAccessors := by rw [X.admits.platform]
  have a : ∀ x, x ∈ Bundle.messageArmAtoms cls names → x.holds args s none s [] = true := fun x hx => h x hx
  obtain ⟨T, Z0, L, -, Y⟩ := ThrowableC.of_atoms (args := args) howns hfin hpl (fun x hx => h x (by simp [Bundle.messageArmAtoms, hx]))
  obtain ⟨Z, M, LZ, LM, hnZ⟩ := Init0T.ofS_atoms (args := args) hpl L Y (fun x hx => h x (by simp [Bundle.messageArmAtoms, hx]))
  obtain ⟨P1, Ps, hlen, L1, hL, hP1m, hlink1, hlink⟩ := Bundle.chainS (args := args) hpl hnZ names cls hcls hnames (fun x hx => h x (by simp [Bundle.messageArmAtoms, hx]))
  obtain ⟨Zs, LZs, hn4, hfitv, hfitc⟩ := StringT.of_atoms (args := args) (fun x hx => h x (by simp [Bundle.messageArmAtoms, hx]))
  have hfound : s.vm.findClass cls = some P1.m.cls := findClass_of_methodNamed hP1m
  obtain ⟨c1, kX, hc1, hk, hord, -, -, hn6⟩ := Cond.instantiable_spec (a (.instantiable cls 6) (by simp [Bundle.messageArmAtoms]))
  cases Option.some.inj (hc1.symm.trans hfound)
  have hinit := Cond.initialized_spec hfound hk (a (.initialized cls) (by simp [Bundle.messageArmAtoms]))
  have hctor : kX.findMethod "<init>" "(Ljava/lang/String;)V" = some P1.m.idx := findMethod_of_methodNamed hP1m hk
  have hsel0 : selectMethod e.platform s.vm P1.m.cls T.fill0 = .method T.fill0 := by
    obtain ⟨c2, r2, m2, q1, q2, q3, q4, -⟩ := Cond.selects_spec (a (.selects cls Bundle.tFill0 Bundle.tFill0) (by simp [Bundle.messageArmAtoms]))
    cases Option.some.inj (q1.symm.trans hfound)
    cases Option.some.inj (q2.symm.trans (State.methodFound?_of_named Y.fill0 (by decide)))
    cases Option.some.inj (q3.symm.trans Y.fill0)
    rw [Launch.admits_selectMethod X.admits]; exact q4
  have hselF : selectMethod e.platform s.vm P1.m.cls T.fill = .method T.fill := by
    obtain ⟨c2, r2, m2, q1, q2, q3, q4, -⟩ := Cond.selects_spec (a (.selects cls Bundle.tFill Bundle.tFill) (by simp [Bundle.messageArmAtoms]))
    cases Option.some.inj (q1.symm.trans hfound)
    cases Option.some.inj (q2.symm.trans (State.methodFound?_of_named Y.fill (by decide)))
    cases Option.some.inj (q3.symm.trans Y.fill)
    rw [Launch.admits_selectMethod X.admits]; exact q4
  obtain ⟨cellS0, hcS0, hiss⟩ := Y.statics
  obtain ⟨u0, hu0⟩ := Cond.staticRefV Y.unassigned L.unassignedStatic L.statics hcS0 hiss (a (.isRef (.static Bundle.tN "UNASSIGNED_STACK" Bundle.steD)) (by simp [Bundle.messageArmAtoms]))
  obtain ⟨sen, hsen⟩ := Cond.staticRefV Y.sentinel L.sentinelStatic L.statics hcS0 hiss (a (.isRef (.static Bundle.tN "SUPPRESSED_SENTINEL" Bundle.listD)) (by simp [Bundle.messageArmAtoms]))
  obtain ⟨ci198, i198, fB, hk198, hg198, ha198, hsB, -, hnB, htB, hffB⟩ := Cond.ownField (t := .object "java/lang/Object") Y.found L.cls (by decide +kernel) (a (.fieldLink Bundle.tN 198 Bundle.tN "backtrace" "Ljava/lang/Object;") (by simp [Bundle.messageArmAtoms])) (a (.lays Bundle.tN Bundle.tN "backtrace" "Ljava/lang/Object;") (by simp [Bundle.messageArmAtoms])) e.platform hpl
  obtain ⟨cellS, hcS', heS, -, hkeep⟩ := X.same.2.2.2.2.2 T.aS cellS0 hcS0
  have hcellS : W.heap[T.aS]? = some cellS := hcS'
  have hout' : ∀ i, (⟨T.aS, i⟩ : Loc) ∉ locs := fun i hmem => by
    have := hlocs _ hmem cellS0 hcS0
    rw [hiss] at this; cases this
  have hknownS : cellS.vm ≠ .unknown := by
    rw [heS]; intro hu
    rw [show cellS0.vm = .unknown from hu] at hiss
    cases hiss
  have hvU : cellS.slots[T.fUnassigned.slot]? = some u0.v := by rw [hkeep _ (hout' _)]; exact hu0
  have hvSen : cellS.slots[T.fSentinel.slot]? = some sen.v := by rw [hkeep _ (hout' _)]; exact hsen
  obtain ⟨iM, hffM⟩ := Y.msg
  obtain ⟨tyC, dC, hdC, hdnC⟩ := Cond.laysAt hfound hk Y.cause (a (.lays cls Bundle.tN "cause" "Ljava/lang/Throwable;") (by simp [Bundle.messageArmAtoms]))
  obtain ⟨tyS, dS, hdS, hdnS⟩ := Cond.laysAt hfound hk Y.stack (a (.lays cls Bundle.tN "stackTrace" Bundle.steD) (by simp [Bundle.messageArmAtoms]))
  obtain ⟨tyP, dP, hdP, hdnP⟩ := Cond.laysAt hfound hk Y.supp (a (.lays cls Bundle.tN "suppressedExceptions" Bundle.listD) (by simp [Bundle.messageArmAtoms]))
  obtain ⟨tyM, dM, hdM, hdnM⟩ := Cond.laysAt hfound hk hffM (a (.lays cls Bundle.tN "detailMessage" "Ljava/lang/String;") (by simp [Bundle.messageArmAtoms]))
  obtain ⟨tyB, dB, hdB, hdnB⟩ := Cond.laysAt hfound hk hffB (a (.lays cls Bundle.tN "backtrace" "Ljava/lang/Object;") (by simp [Bundle.messageArmAtoms]))
  have bC := Cond.laysApart hdB hdC hdnB hdnC (by rw [hnB, Y.causeName]; decide)
  have bS := Cond.laysApart hdB hdS hdnB hdnS (by rw [hnB, Y.stackName]; decide)
  have bP := Cond.laysApart hdB hdP hdnB hdnP (by rw [hnB, Y.suppName]; decide)
  have hbk : ((preparedCellV T.toThrowableT (freshCell P1.m.cls kX) (W.heap.size + 2) u0 sen).withEntry W.cur).slots[fB.slot]? = some .null := by
    have := fresh_default (c := P1.m.cls) tyB
    rw [htB] at this
    simpa [preparedCellV, Cell.setSlot, Cell.withEntry, Array.getElem?_setIfInBounds, bC, bS, bP, bC.symm, bS.symm, bP.symm, defaultValue] using this
  have tkC := Takes.of_laid (v := .ref (W.heap.size + 2)) hk hord tyC (by rw [Y.causeType]; rfl)
  have tkS := Takes.of_laid (v := u0.v) hk hord tyS (by rw [Y.stackType]; exact fits_refV_array _ u0)
  have tkP := Takes.of_laid (v := sen.v) hk hord tyP (by rw [Y.suppType]; exact fits_refV_object _ sen)
  have tkM := Takes.of_laid (v := .ref (W.heap.size + 1)) hk hord tyM (by rw [Y.msgType]; rfl)
  have hskip : SkipFacts T e.platform s (fun u => u) u0 ((preparedCellV T.toThrowableT (freshCell P1.m.cls kX) (W.heap.size + 2) u0 sen).withEntry W.cur) := ⟨{ ci198 := ci198, i198 := i198, fBack := fB }, ⟨hk198, hg198, ha198, hsB⟩, hbk, fun _ _ => rfl⟩
  have h0 : At W g.method c below := by rw [hg]; exact X.here
  obtain ⟨hbeyond, hfreeW⟩ := X.vmMayThrow hsize (.throwNew cls (some text) none) (fun f hf => by cases hf) rfl hRlocals
  have hfr' : W.frames.length + Ps.length + 4 < (e.platform.stackLimits W.me).1 := by have := X.framesAbove hRframes; omega
  have hwd' : (stackUse (.java g :: W.frames.tail)).2 + 13 * Ps.length + 55 ≤ (e.platform.stackLimits W.me).2 := by have := X.stackAbove hsize (K := 13 * Ps.length + 55) (by omega); omega
  have hslots : W.slotsUsed + (stringBytes (stringToUtf16 text)).size + Zs.kS.instanceTypes.size + kX.instanceTypes.size ≤ e.platform.maxSlots := by
    have := X.slotsAbove hRslots
    rw [hn4, hn6]
    omega
  obtain ⟨vm', hW', st⟩ := Steps.vmThrowsMessageColdByV p (s₀ := s) (S := W) (g := g) h0 hexec T L Z LZ M LM X.warmed (t := W.cur) rfl Zs LZs P1 L1 Ps hL hlink1 hlink hsoe hoom hfound hk hinit hord hctor
    (Launch.admits_hotImplicitExceptions X.admits) hbeyond hfreeW htext hlimit hheap (X.cellsAbove hRcells) hslots (hfitv _) (hfitc _)
    (Nn := fun u => u) heapOnly_id (fun _ _ => rfl) (fun _ => rfl) (fun u x y => setCell_twice _ _ _ _) (fun _ => Nat.le_refl _) (cN := ((preparedCellV T.toThrowableT (freshCell P1.m.cls kX) (W.heap.size + 2) u0 sen).withEntry W.cur))
    hsel0 hcellS hknownS hvU tkS (fun _ hu => hu) (fun _ hu => hu) rfl rfl rfl (by simp [preparedCellV, Cell.setSlot, Cell.withEntry]) hskip (fun _ _ hA hW _ hroom _ hrest => L.nativeOff p htr hA hW hroom hrest) hselF hvSen tkC tkP tkM Y.objLocals rfl hfr' hwd'
  rw [plainBareV_eq T.toThrowableT (W.heap.size + 2) u0 sen (.ref (W.heap.size + 1)) W.cur rfl rfl] at st
  obtain ⟨-, -, w3, w4, -, -, -⟩ := withThrown_facts e.platform W Zs text P1.m.cls kX
  have X3 := ((X.pushed (bytesOf Zs.cB (stringToUtf16 text))).pushed (stringAt Zs.cS Zs.kS Zs.fv Zs.fc (stringToUtf16 text) W.heap.size)).pushed (freshCell P1.m.cls kX)
  rw [← withString_eq] at X3
  have X4 := X3.noted hW'
  have ha : (W.heap.size + 2) < ((withThrown W Zs text P1.m.cls kX).setVm vm').heap.size := by show _ < (withThrown W Zs text P1.m.cls kX).heap.size; rw [w3]; omega
  have hcell : ((withThrown W Zs text P1.m.cls kX).setVm vm').heap[(W.heap.size + 2)]? = some (freshCell P1.m.cls kX) := w4
  have X5 := ((((X4.stored hcell T.fCause.slot (.ref (W.heap.size + 2))).storedAgain ha T.fStack.slot u0.v).storedAgain ha T.fSupp.slot sen.v).storedAgain ha T.fStack.slot u0.v).storedAgain ha T.fMsg.slot (.ref (W.heap.size + 1))
  obtain ⟨g₁, hfrM⟩ := X5.frames_eq
  have hU : ((((withThrown W Zs text P1.m.cls kX).setVm vm').setCell (W.heap.size + 2) (plainBareV T.toThrowableT (freshCell P1.m.cls kX) (W.heap.size + 2) u0 sen (.ref (W.heap.size + 1)))).setTop g).pushFrame (.throwing (W.heap.size + 2)) = (((withThrown W Zs text P1.m.cls kX).setVm vm').setCell (W.heap.size + 2) (plainBareV T.toThrowableT (freshCell P1.m.cls kX) (W.heap.size + 2) u0 sen (.ref (W.heap.size + 1)))).setFrames (.throwing (W.heap.size + 2) :: .java g :: below) := by
    rw [State.pushFrame, State.frames_setTop _ hfrM, State.setTop_of_frames _ hfrM, State.setFrames_setFrames]
  have b1 : (bytesOf Zs.cB (stringToUtf16 text)).slots.size = (stringBytes (stringToUtf16 text)).size := by
    rw [(Cell.writeAll_facts _ _).2.2]; simp [bytes0]
  have b2 : (stringAt Zs.cS Zs.kS Zs.fv Zs.fc (stringToUtf16 text) W.heap.size).slots.size = 4 := by simp [string0, Cell.setSlot, hn4]
  have b3 : (freshCell P1.m.cls kX).slots.size = 6 := by simp [hn6]
  rw [b1, b2, b3] at X5
  have e9 : slots + (stringBytes (stringToUtf16 text)).size + 4 + 6 = slots + ((stringBytes (stringToUtf16 text)).size + 4 + 6) := by omega
  rw [e9] at X5
  simp only [List.append_assoc, List.cons_append, List.nil_append] at X5
  refine ⟨((withThrown W Zs text P1.m.cls kX).setVm vm').setCell (W.heap.size + 2) (plainBareV T.toThrowableT (freshCell P1.m.cls kX) (W.heap.size + 2) u0 sen (.ref (W.heap.size + 1))), W.heap.size + 2, _, fun target ht => st _ (by rw [X.tail, ← hU]; exact ht),
    X5.forget (fun y hy => ?_), heapAt_setCell_self _ ha, hfound, rfl⟩
  simp only [List.mem_cons, List.not_mem_nil, or_false] at hy
  have hge : s.heap.size ≤ W.heap.size := X.same.2.1
  rcases hy with rfl | rfl | rfl | rfl | rfl <;> exact Nat.le_trans hge (Nat.le_add_right _ 2)
set_option maxHeartbeats 1000000 in
/-- the machine throws NullPointerException, no traces kept: from its note over the frame g to 'throwing' over the same frame (follows the proof of Stand.vmThrowsNpe, Shelf42/KT2.lean; throwsNpeColdBareVAt, Shelf42/NT91.lean, called) -/
theorem vx_npeAt {p : Program} {l : Launch} {e : Env} {R : Room} {s : State} {m₀ : MethodId} {args : Array Value} {below : List Frame} {meth : Method} {c : Code} {W : State} {locs : List Loc} {cells slots : Nat}
    (X : Stand p l e R s m₀ args below meth c W locs cells slots) (hexec : p.tables.exec = Jvm.exec) (htr : e.platform.stackTraces = false) {n : Nat}
    (h : ∀ a ∈ Bundle.npeArmAtoms n, a.before args s = true)
    (hlocs : ∀ x ∈ locs, ∀ cell, s.heap[x.base]? = some cell → cell.vm.isStatics = false)
    {g : JFrame} (hg : g.method = m₀) (hsize : g.locals.size = c.maxLocals)
    (hRframes : 7 < R.frames) (hRlocals : 2 * g.monitorRoom + (g.stack.map fun v => v.category).sum + 10240 ≤ R.locals)
    (hRcells : cells + 1 ≤ R.cells) (hRslots : slots + n ≤ R.slots) (hlocks : meth.locks = false) :
    ∃ (S : State) (q : Addr) (ce : Cell), (∀ target, Steps p.tables e below ((S.setTop g).pushFrame (.throwing q)) target → Steps p.tables e below ((W.setTop g).pushFrame (.throwNew "java/lang/NullPointerException" none none)) target) ∧
      Stand p l e R s m₀ args below meth c S locs (cells + 1) (slots + n) ∧ S.heap[q]? = some ce ∧ s.vm.findClass "java/lang/NullPointerException" = some ce.cls ∧ ce.vm = .none := by
  have howns : e.platform.frameOwnsMonitors = true := by rw [X.admits.platform]
  have hfin : e.platform.finalization = false := by rw [X.admits.platform]
  have hpl : e.platform.magicAccessors = ({} : Platform).magicAccessors := by rw [X.admits.platform]
  have hpl2 : e.platform.arrayCloneIsPublic = true := by rw [X.admits.platform]
  have a' : ∀ x, x ∈ Bundle.npeArmAtoms n → x.holds args s none s [] = true := fun x hx => h x hx
  obtain ⟨T, Z, L, LZ, Y⟩ := ThrowableC.of_atoms (args := args) howns hfin hpl (fun x hx => h x (by simp [Bundle.npeArmAtoms, hx]))
  obtain ⟨N, LN, hcN, hnNF, hordN, hffS⟩ := NpeC.of_atoms (args := args) hpl hpl2 L Y (fun x hx => h x (by simp [Bundle.npeArmAtoms, hx]))
  obtain ⟨P1, L1, hP1m, hP1s⟩ := PassC.of_atoms (args := args) (s := s) hpl (X := Bundle.nN) (Y := Bundle.rN) (by decide) (by decide) LibCode.NullPointerException.Init0.at_0 LibCode.NullPointerException.Init0.at_1 LibCode.NullPointerException.Init0.at_4 (fun x hx => h x (by simp [Bundle.npeArmAtoms, hx]))
  obtain ⟨PR, LR, hPRm, hPRs⟩ := PassC.of_atoms (args := args) (s := s) hpl (X := Bundle.rN) (Y := Bundle.eN) (by decide) (by decide) LibCode.RuntimeException.Init0.at_0 LibCode.RuntimeException.Init0.at_1 LibCode.RuntimeException.Init0.at_4 (fun x hx => h x (by simp [Bundle.npeArmAtoms, hx]))
  obtain ⟨PE, LEx, hPEm, hPEs⟩ := PassC.of_atoms (args := args) (s := s) hpl (X := Bundle.eN) (Y := Bundle.tN) (by decide) (by decide) LibCode.Exception.Init0.at_0 LibCode.Exception.Init0.at_1 LibCode.Exception.Init0.at_4 (fun x hx => h x (by simp [Bundle.npeArmAtoms, hx]))
  have hfound : s.vm.findClass Bundle.nN = some P1.m.cls := findClass_of_methodNamed hP1m
  have ecls : N.cN = P1.m.cls := Option.some.inj (hcN.symm.trans hfound)
  have hk : s.vm.classes[P1.m.cls]? = some N.kN := by rw [← ecls]; exact LN.cls
  have hinit := Cond.initialized_spec hfound hk (a' (.initialized Bundle.nN) (by simp [Bundle.npeArmAtoms]))
  have hctor : N.kN.findMethod "<init>" "()V" = some P1.m.idx := findMethod_of_methodNamed hP1m hk
  obtain ⟨c1, k1, hc1, hk1, -, -, -, hn⟩ := Cond.instantiable_spec (a' (.instantiable Bundle.nN n) (by simp [Bundle.npeArmAtoms]))
  cases Option.some.inj (hc1.symm.trans hfound)
  cases Option.some.inj (hk1.symm.trans hk)
  have hfsz : (freshCell P1.m.cls N.kN).slots.size = n := by simp [hn]
  have hlink1 : P1.sup = PR.m := Option.some.inj (hP1s.symm.trans hPRm)
  have hlinkR : PR.sup = PE.m := Option.some.inj (hPRs.symm.trans hPEm)
  have hlinkE : PE.sup = Z.m T.toThrowableT := Option.some.inj (hPEs.symm.trans Y.init0)
  have hLs : ∀ P, P ∈ [PR, PE] → P.Links0 e.platform s := fun P hP => by
    simp only [List.mem_cons, List.not_mem_nil, or_false] at hP
    rcases hP with rfl | rfl
    · exact LR
    · exact LEx
  have hsel0 : selectMethod e.platform s.vm P1.m.cls T.fill0 = .method T.fill0 := by
    obtain ⟨c2, r2, m2, q1, q2, q3, q4, -⟩ := Cond.selects_spec (a' (.selects Bundle.nN Bundle.tFill0 Bundle.tFill0) (by simp [Bundle.npeArmAtoms]))
    cases Option.some.inj (q1.symm.trans hfound)
    cases Option.some.inj (q2.symm.trans (State.methodFound?_of_named Y.fill0 (by decide)))
    cases Option.some.inj (q3.symm.trans Y.fill0)
    rw [Launch.admits_selectMethod X.admits]; exact q4
  have hselF : selectMethod e.platform s.vm P1.m.cls T.fill = .method N.fill := by
    obtain ⟨c2, r2, m2, q1, q2, q3, q4, -⟩ := Cond.selects_spec (a' (.selects Bundle.nN Bundle.tFill Bundle.nFill) (by simp [Bundle.npeArmAtoms]))
    cases Option.some.inj (q1.symm.trans hfound)
    cases Option.some.inj (q2.symm.trans (State.methodFound?_of_named Y.fill (by decide)))
    cases Option.some.inj (q3.symm.trans hnNF)
    rw [Launch.admits_selectMethod X.admits]; exact q4
  obtain ⟨cellS0, hcS0, hiss⟩ := Y.statics
  obtain ⟨u0, hu0⟩ := Cond.staticRefV Y.unassigned L.unassignedStatic L.statics hcS0 hiss (a' (.isRef (.static Bundle.tN "UNASSIGNED_STACK" Bundle.steD)) (by simp [Bundle.npeArmAtoms]))
  obtain ⟨sen, hsen⟩ := Cond.staticRefV Y.sentinel L.sentinelStatic L.statics hcS0 hiss (a' (.isRef (.static Bundle.tN "SUPPRESSED_SENTINEL" Bundle.listD)) (by simp [Bundle.npeArmAtoms]))
  obtain ⟨ci198, i198, fB, hk198, hg198, ha198, hsB, -, hnB, htB, hffB⟩ := Cond.ownField (t := .object "java/lang/Object") Y.found L.cls (by decide +kernel) (a' (.fieldLink Bundle.tN 198 Bundle.tN "backtrace" Bundle.objD) (by simp [Bundle.npeArmAtoms])) (a' (.lays Bundle.tN Bundle.tN "backtrace" Bundle.objD) (by simp [Bundle.npeArmAtoms])) e.platform hpl
  obtain ⟨cellS, hcS', heS, -, hkeep⟩ := X.same.2.2.2.2.2 T.aS cellS0 hcS0
  have hcellS : W.heap[T.aS]? = some cellS := hcS'
  have hout' : ∀ i, (⟨T.aS, i⟩ : Loc) ∉ locs := fun i hmem => by
    have := hlocs _ hmem cellS0 hcS0
    rw [hiss] at this; cases this
  have hknownS : cellS.vm ≠ .unknown := by
    rw [heS]; intro hu
    rw [show cellS0.vm = .unknown from hu] at hiss
    cases hiss
  have hvU : cellS.slots[T.fUnassigned.slot]? = some u0.v := by rw [hkeep _ (hout' _)]; exact hu0
  have hvSen : cellS.slots[T.fSentinel.slot]? = some sen.v := by rw [hkeep _ (hout' _)]; exact hsen
  obtain ⟨tyC, dC, hdC, hdnC⟩ := Cond.laysAt hfound hk Y.cause (a' (.lays Bundle.nN Bundle.tN "cause" "Ljava/lang/Throwable;") (by simp [Bundle.npeArmAtoms]))
  obtain ⟨tyS, dS, hdS, hdnS⟩ := Cond.laysAt hfound hk Y.stack (a' (.lays Bundle.nN Bundle.tN "stackTrace" Bundle.steD) (by simp [Bundle.npeArmAtoms]))
  obtain ⟨tyP, dP, hdP, hdnP⟩ := Cond.laysAt hfound hk Y.supp (a' (.lays Bundle.nN Bundle.tN "suppressedExceptions" Bundle.listD) (by simp [Bundle.npeArmAtoms]))
  obtain ⟨tyX, dX, hdX, hdnX⟩ := Cond.laysAt hfound hk hffS (a' (.lays Bundle.nN Bundle.nN "extendedMessageState" "I") (by simp [Bundle.npeArmAtoms, Bundle.npeAtoms]))
  obtain ⟨hnX, htX⟩ := State.fieldFound?_type hffS (t := .int) (by decide +kernel)
  have xC := Cond.laysApart hdC hdX hdnC hdnX (by rw [hnX, Y.causeName]; decide)
  have xS := Cond.laysApart hdS hdX hdnS hdnX (by rw [hnX, Y.stackName]; decide)
  have xP := Cond.laysApart hdP hdX hdnP hdnX (by rw [hnX, Y.suppName]; decide)
  have hv0 : (freshCell P1.m.cls N.kN).slots[N.fState.slot]? = some (.int 0) := by
    have := fresh_default (c := P1.m.cls) tyX
    rw [htX] at this; exact this
  obtain ⟨tyB, dB, hdB, hdnB⟩ := Cond.laysAt hfound hk hffB (a' (.lays Bundle.nN Bundle.tN "backtrace" Bundle.objD) (by simp [Bundle.npeArmAtoms]))
  have bC := Cond.laysApart hdB hdC hdnB hdnC (by rw [hnB, Y.causeName]; decide)
  have bS := Cond.laysApart hdB hdS hdnB hdnS (by rw [hnB, Y.stackName]; decide)
  have bP := Cond.laysApart hdB hdP hdnB hdnP (by rw [hnB, Y.suppName]; decide)
  have bX := Cond.laysApart hdB hdX hdnB hdnX (by rw [hnB, hnX]; decide)
  have hbk : ((npeCell N.toNpeT (preparedCellV T.toThrowableT (freshCell P1.m.cls N.kN) W.heap.size u0 sen) W.cur).withEntry W.cur).slots[fB.slot]? = some .null := by
    have := fresh_default (c := P1.m.cls) tyB
    rw [htB] at this
    simpa [npeCell, preparedCellV, Cell.setSlot, Cell.withEntry, Array.getElem?_setIfInBounds, bC, bS, bP, bX, bC.symm, bS.symm, bP.symm, bX.symm, defaultValue] using this
  have tkC := Takes.of_laid (v := .ref W.heap.size) hk hordN tyC (by rw [Y.causeType]; rfl)
  have tkS := Takes.of_laid (v := u0.v) hk hordN tyS (by rw [Y.stackType]; exact fits_refV_array _ u0)
  have tkP := Takes.of_laid (v := sen.v) hk hordN tyP (by rw [Y.suppType]; exact fits_refV_object _ sen)
  have tkX := Takes.of_laid (v := .int 1) hk hordN tyX (by rw [htX]; rfl)
  have hskip : SkipFacts T e.platform s (fun u => u) u0 ((npeCell N.toNpeT (preparedCellV T.toThrowableT (freshCell P1.m.cls N.kN) W.heap.size u0 sen) W.cur).withEntry W.cur) := ⟨{ ci198 := ci198, i198 := i198, fBack := fB }, ⟨hk198, hg198, ha198, hsB⟩, hbk, fun _ _ => rfl⟩
  obtain ⟨vm', X3, st, -⟩ := X.throwsNpeColdBareVAt hexec hg hsize T L Z LZ N LN P1 L1 [PR, PE] hLs hlink1 ⟨hlinkR, hlinkE, trivial⟩ hfound hk hinit hordN hctor hsel0 hselF hcellS hknownS hvU hvSen
    hv0 xC xS xP tkC tkS tkP tkX Y.objLocals hskip (fun _ _ hA hW _ hroom _ hrest => L.nativeOff p htr hA hW hroom hrest) (by simpa using hRframes) hRlocals (by simp) hRcells (by rw [hn]; exact hRslots)
  have hlt : W.heap.size < ((W.pushCell (freshCell P1.m.cls N.kN)).setVm vm').heap.size := by
    show W.heap.size < (W.pushCell (freshCell P1.m.cls N.kN)).heap.size
    rw [State.heap_size_pushCell]; omega
  rw [hfsz] at X3
  obtain ⟨g₁, hfrM⟩ := X3.frames_eq
  have hU : ((((W.pushCell (freshCell P1.m.cls N.kN)).setVm vm').setCell W.heap.size (npeBareV T.toThrowableT N.toNpeT (freshCell P1.m.cls N.kN) W.heap.size u0 sen)).setTop g).pushFrame (.throwing W.heap.size) = (((W.pushCell (freshCell P1.m.cls N.kN)).setVm vm').setCell W.heap.size (npeBareV T.toThrowableT N.toNpeT (freshCell P1.m.cls N.kN) W.heap.size u0 sen)).setFrames (.throwing W.heap.size :: .java g :: below) := by
    rw [State.pushFrame, State.frames_setTop _ hfrM, State.setTop_of_frames _ hfrM, State.setFrames_setFrames]
  refine ⟨_, W.heap.size, _, fun target ht => st.trans (by rw [← hU]; exact ht), X3.forget (fun y hy => ?_), heapAt_setCell_self _ hlt, hfound, rfl⟩
  simp only [List.mem_cons, List.not_mem_nil, or_false] at hy
  have hge : s.heap.size ≤ W.heap.size := X.same.2.1
  rcases hy with rfl | rfl | rfl | rfl | rfl <;> exact hge
/-- the words of a machine's NullPointerException, but the four that speak of the heap -/
def vx_atN (n : Nat) : List Cond := (Bundle.npeArmAtoms n).filter vx_no
/-- the words of a machine's throw with a message, but the four that speak of the heap -/
def vx_atM (X : String) (names : List String) : List Cond := (Bundle.messageArmAtoms X names).filter vx_no
section
variable {p : Program} {l : Launch} {e : Env} {R : Room} {s : State} {m : MethodId} {args : Array Value} {below : List Frame} {meth : Method} {c : Code} {H : Heap} {locs : List Loc} {cells slots : Nat}
/-- a frame seen from a rebased start, seen from the first start again -/
theorem vx_back9 {T S : State} {R' : Room} {k n : Nat} (X : Stand p l e R s m args below meth c T locs cells slots) (Y : Stand p l e R' ((T.setVm s.vm).setFrames (.invoking m args :: below)) m args below meth c T [] 0 0) (Z : Stand p l e R' ((T.setVm s.vm).setFrames (.invoking m args :: below)) m args below meth c S [] k n) :
    Stand p l e R s m args below meth c S locs (cells + k) (slots + n) := by
  have hW0 : s.WarmedH ((T.setVm s.vm).setFrames (.invoking m args :: below)).vm := State.WarmedH.refl s
  refine { admits := X.admits, cas := X.cas, clock := X.clock, frames := X.frames, room := X.room, hears := X.hears, method := X.method, code := X.code, here := Z.here, tail := Z.tail, warmed := State.WarmedH.trans hW0 Z.warmed, limits := Z.limits.trans (Y.limits.symm.trans X.limits), bytes := Z.bytes.trans (Y.bytes.symm.trans X.bytes), same := ?_ }
  obtain ⟨e1, e2⟩ := Z.same
  rw [State.setFrames_setFrames] at e1
  have h2 : (T.setVm s.vm).sameButNew (S.setVm s.vm) [] k n := ⟨e1, e2⟩
  have h3 := X.same.trans h2
  rw [List.append_nil] at h3
  exact h3
/-- from the machine's note that E is thrown here with this text -/
def vx_Note (p : Program) (l : Launch) (e : Env) (R : Room) (s : State) (m : MethodId) (args : Array Value) (below : List Frame) (meth : Method) (c : Code) (H : Heap) (locs : List Loc) (cells slots : Nat) (Q : State → Prop) (g : JFrame) (E text : String) : Prop :=
  ∀ T : State, T.heap = H → Stand p l e R s m args below meth c T locs cells slots → ∃ t, Steps p.tables e below ((T.setTop g).pushFrame (.throwNew E (some text) none)) t ∧ Q t
theorem vx_vm {pc : Nat} {ls : Array Slot} {rest : List Value} {Q : State → Prop} (hexec : p.tables.exec = Jvm.exec) (hl : l.stackTraces = false) {cls text : String} {names : List String} {nb : Nat} {A : Nat → Prop}
    (hcls : Bundle.fit cls = true) (hnames : ∀ n ∈ names, Bundle.fit n = true) (hsoe : (cls == "java/lang/StackOverflowError") = false) (hoom : (cls == "java/lang/OutOfMemoryError") = false)
    (hat : ∀ w ∈ vx_atM cls names, w.before args s = true) (hgood : ∀ w ∈ vx_atM cls names, vx_ot w = true)
    (hU : vx_Zq Bundle.tN "UNASSIGNED_STACK" Bundle.steD A s s.heap) (hN : vx_Zq Bundle.tN "SUPPRESSED_SENTINEL" Bundle.listD A s s.heap) (hS : va_S A s.heap H locs) (hsize : ls.size = c.maxLocals)
    (htext : (text == notModelled) = false) (hnb : (stringBytes (stringToUtf16 text)).size ≤ nb) (hnb1 : nb ≤ 1000)
    (hRframes : names.length + 4 < R.frames) (hRlocals : (rest.map fun v => v.category).sum + 10240 ≤ R.locals) (hshort : 13 * names.length + 55 ≤ 10240) (hRcells : cells + 3 ≤ R.cells) (hRslots : slots + (nb + 10) ≤ R.slots) (hlocks : meth.locks = false)
    (k : ∀ (H1 : Heap) (q9 : Addr) (ce : Cell), H.size ≤ H1.size → (∀ q : Nat, q < H.size → H1[q]? = H[q]?) → va_S A s.heap H1 locs → H1[q9]? = some ce → ce.vm = .none → s.vm.findClass cls = some ce.cls → vx_W p l e R s m args below meth c H1 locs (cells + 3) (slots + (nb + 10)) Q (F0 m pc ls rest) q9) :
    vx_Note p l e R s m args below meth c H locs cells slots Q (F0 m pc ls rest) cls text := by
  intro T hT X
  have htr : e.platform.stackTraces = false := (show e.platform.stackTraces = l.stackTraces by rw [X.admits.platform]).trans hl
  have Y := vx_rebase X (R' := { frames := R.frames, locals := R.locals, cells := 3, slots := nb + 10 }) (Nat.le_refl _) (Nat.le_refl _) hRcells hRslots
  have hhp : ((T.setVm s.vm).setFrames (.invoking m args :: below)).heap = H := hT
  have hW0 : s.WarmedH ((T.setVm s.vm).setFrames (.invoking m args :: below)).vm := State.WarmedH.refl s
  have hat' : ∀ w ∈ vx_atM cls names, w.before args ((T.setVm s.vm).setFrames (.invoking m args :: below)) = true := fun w hw => vx_ot_at hW0 rfl (hgood w hw) (hat w hw)
  have hU' : vx_Zq Bundle.tN "UNASSIGNED_STACK" Bundle.steD A ((T.setVm s.vm).setFrames (.invoking m args :: below)) ((T.setVm s.vm).setFrames (.invoking m args :: below)).heap := by rw [hhp]; exact vx_Zq.moved hW0.alike (hU.kept hS.2.1)
  have hN' : vx_Zq Bundle.tN "SUPPRESSED_SENTINEL" Bundle.listD A ((T.setVm s.vm).setFrames (.invoking m args :: below)) ((T.setVm s.vm).setFrames (.invoking m args :: below)).heap := by rw [hhp]; exact vx_Zq.moved hW0.alike (hN.kept hS.2.1)
  obtain ⟨S, q, ce, st, Z, hce, hcl', hv⟩ := vx_vmAt Y hexec htr (cls := cls) (names := names) (text := text) hcls hnames hsoe hoom (vx_own hat' (vx_isRefq hU'.1) (vx_isRefq hN'.1) hU'.2.word hN'.2.word) (fun x hx => nomatch hx) htext
    (by rw [Launch.admits_arrayLengthLimit X.admits]; omega) (by rw [Launch.admits_maxHeapBytes X.admits]; simp only [componentBytes]; omega)
    (g := F0 m pc ls rest) rfl hsize hRframes (by show 2 * 0 + (rest.map fun v => v.category).sum + 10240 ≤ R.locals; omega) hshort (by show 0 + 3 ≤ 3; omega) (by show 0 + (_ + 4 + 6) ≤ nb + 10; omega) hlocks
  obtain ⟨f1, f2⟩ := vx_frame Z.same
  have f1' : H.size ≤ S.heap.size := by rw [← hT]; exact f1
  have f2' : ∀ q : Nat, q < H.size → S.heap[q]? = H[q]? := fun q hq => by
    rw [← hT]
    exact f2 q (by rw [← hT] at hq; exact hq) (fun z hz => nomatch hz)
  have X5 := vx_back9 X Y Z
  have X6 : Stand p l e R s m args below meth c S locs (cells + 3) (slots + (nb + 10)) := { X5 with same := X5.same.mono (by omega) (by omega) }
  obtain ⟨t, a1, b1⟩ := k S.heap q ce f1' f2' ⟨Nat.le_trans hS.1 f1', fun q h1 h2 => (f2' q (Nat.lt_of_lt_of_le h1 hS.1)).trans (hS.2.1 q h1 h2), hS.2.2⟩ hce hv hcl' S rfl X6
  exact ⟨t, st t a1, b1⟩
/-- from the machine's note that NullPointerException is thrown here -/
def vx_NoteN (p : Program) (l : Launch) (e : Env) (R : Room) (s : State) (m : MethodId) (args : Array Value) (below : List Frame) (meth : Method) (c : Code) (H : Heap) (locs : List Loc) (cells slots : Nat) (Q : State → Prop) (g : JFrame) : Prop :=
  ∀ T : State, T.heap = H → Stand p l e R s m args below meth c T locs cells slots → ∃ t, Steps p.tables e below ((T.setTop g).pushFrame (.throwNew "java/lang/NullPointerException" none none)) t ∧ Q t
theorem vx_npe {pc : Nat} {ls : Array Slot} {rest : List Value} {Q : State → Prop} (hexec : p.tables.exec = Jvm.exec) (hl : l.stackTraces = false) {nb : Nat} {A : Nat → Prop}
    (hat : ∀ w ∈ vx_atN nb, w.before args s = true) (hgood : ∀ w ∈ vx_atN nb, vx_ot w = true)
    (hU : vx_Zq Bundle.tN "UNASSIGNED_STACK" Bundle.steD A s s.heap) (hN : vx_Zq Bundle.tN "SUPPRESSED_SENTINEL" Bundle.listD A s s.heap) (hS : va_S A s.heap H locs) (hsize : ls.size = c.maxLocals)
    (hRframes : 7 < R.frames) (hRlocals : (rest.map fun v => v.category).sum + 10240 ≤ R.locals) (hRcells : cells + 1 ≤ R.cells) (hRslots : slots + nb ≤ R.slots) (hlocks : meth.locks = false)
    (k : ∀ (H1 : Heap) (q9 : Addr) (ce : Cell), H.size ≤ H1.size → (∀ q : Nat, q < H.size → H1[q]? = H[q]?) → va_S A s.heap H1 locs → H1[q9]? = some ce → ce.vm = .none → s.vm.findClass "java/lang/NullPointerException" = some ce.cls → vx_W p l e R s m args below meth c H1 locs (cells + 1) (slots + nb) Q (F0 m pc ls rest) q9) :
    vx_NoteN p l e R s m args below meth c H locs cells slots Q (F0 m pc ls rest) := by
  intro T hT X
  have htr : e.platform.stackTraces = false := (show e.platform.stackTraces = l.stackTraces by rw [X.admits.platform]).trans hl
  have Y := vx_rebase X (R' := { frames := R.frames, locals := R.locals, cells := 1, slots := nb }) (Nat.le_refl _) (Nat.le_refl _) hRcells hRslots
  have hhp : ((T.setVm s.vm).setFrames (.invoking m args :: below)).heap = H := hT
  have hW0 : s.WarmedH ((T.setVm s.vm).setFrames (.invoking m args :: below)).vm := State.WarmedH.refl s
  have hat' : ∀ w ∈ vx_atN nb, w.before args ((T.setVm s.vm).setFrames (.invoking m args :: below)) = true := fun w hw => vx_ot_at hW0 rfl (hgood w hw) (hat w hw)
  have hU' : vx_Zq Bundle.tN "UNASSIGNED_STACK" Bundle.steD A ((T.setVm s.vm).setFrames (.invoking m args :: below)) ((T.setVm s.vm).setFrames (.invoking m args :: below)).heap := by rw [hhp]; exact vx_Zq.moved hW0.alike (hU.kept hS.2.1)
  have hN' : vx_Zq Bundle.tN "SUPPRESSED_SENTINEL" Bundle.listD A ((T.setVm s.vm).setFrames (.invoking m args :: below)) ((T.setVm s.vm).setFrames (.invoking m args :: below)).heap := by rw [hhp]; exact vx_Zq.moved hW0.alike (hN.kept hS.2.1)
  obtain ⟨S, q, ce, st, Z, hce, hcl', hv⟩ := vx_npeAt Y hexec htr (n := nb) (vx_own hat' (vx_isRefq hU'.1) (vx_isRefq hN'.1) hU'.2.word hN'.2.word) (fun x hx => nomatch hx)
    (g := F0 m pc ls rest) rfl hsize hRframes (by show 2 * 0 + (rest.map fun v => v.category).sum + 10240 ≤ R.locals; omega) (by show 0 + 1 ≤ 1; omega) (by show 0 + nb ≤ nb; omega) hlocks
  obtain ⟨f1, f2⟩ := vx_frame Z.same
  have f1' : H.size ≤ S.heap.size := by rw [← hT]; exact f1
  have f2' : ∀ q : Nat, q < H.size → S.heap[q]? = H[q]? := fun q hq => by
    rw [← hT]
    exact f2 q (by rw [← hT] at hq; exact hq) (fun z hz => nomatch hz)
  have X5 := vx_back9 X Y Z
  have X6 : Stand p l e R s m args below meth c S locs (cells + 1) (slots + nb) := { X5 with same := X5.same.mono (by omega) (by omega) }
  obtain ⟨t, a1, b1⟩ := k S.heap q ce f1' f2' ⟨Nat.le_trans hS.1 f1', fun q h1 h2 => (f2' q (Nat.lt_of_lt_of_le h1 hS.1)).trans (hS.2.1 q h1 h2), hS.2.2⟩ hce hv hcl' S rfl X6
  exact ⟨t, st t a1, b1⟩
variable {Q : State → Prop} {cc : ByteArray} {pc : Nat} {ls : Array Slot} {rest : List Value}
theorem vx_idivZ (hexec : p.tables.exec = Jvm.exec) (hb : c.code = cc) {a b : Int32} (h0 : b = 0) (d : decode cc pc = .ok (.idiv, 1)) (k : vx_Note p l e R s m args below meth c H locs cells slots Q (F0 m pc ls rest) "java/lang/ArithmeticException" "/ by zero") :
    W p l e R s m args below meth c H locs cells slots Q (F0 m pc ls (.int b :: .int a :: rest)) := by
  intro T hT X
  obtain ⟨t, st, q⟩ := k T hT X
  exact ⟨t, X.idivZero hexec (g := F0 m pc ls (.int b :: .int a :: rest)) rfl (a := a) (rest := rest) (by rw [h0]) (by rw [hb]; exact d) t st, q⟩
theorem vx_iremZ (hexec : p.tables.exec = Jvm.exec) (hb : c.code = cc) {a b : Int32} (h0 : b = 0) (d : decode cc pc = .ok (.irem, 1)) (k : vx_Note p l e R s m args below meth c H locs cells slots Q (F0 m pc ls rest) "java/lang/ArithmeticException" "/ by zero") :
    W p l e R s m args below meth c H locs cells slots Q (F0 m pc ls (.int b :: .int a :: rest)) := by
  intro T hT X
  obtain ⟨t, st, q⟩ := k T hT X
  exact ⟨t, X.iremZero hexec (g := F0 m pc ls (.int b :: .int a :: rest)) rfl (a := a) (rest := rest) (by rw [h0]) (by rw [hb]; exact d) t st, q⟩
theorem vx_ldivZ (hexec : p.tables.exec = Jvm.exec) (hb : c.code = cc) {a b : Int64} (h0 : b = 0) (d : decode cc pc = .ok (.ldiv, 1)) (k : vx_Note p l e R s m args below meth c H locs cells slots Q (F0 m pc ls rest) "java/lang/ArithmeticException" "/ by zero") :
    W p l e R s m args below meth c H locs cells slots Q (F0 m pc ls (.long b :: .long a :: rest)) := by
  intro T hT X
  obtain ⟨t, st, q⟩ := k T hT X
  exact ⟨t, X.ldivZero hexec (g := F0 m pc ls (.long b :: .long a :: rest)) rfl (a := a) (rest := rest) (by rw [h0]) (by rw [hb]; exact d) t st, q⟩
theorem vx_lremZ (hexec : p.tables.exec = Jvm.exec) (hb : c.code = cc) {a b : Int64} (h0 : b = 0) (d : decode cc pc = .ok (.lrem, 1)) (k : vx_Note p l e R s m args below meth c H locs cells slots Q (F0 m pc ls rest) "java/lang/ArithmeticException" "/ by zero") :
    W p l e R s m args below meth c H locs cells slots Q (F0 m pc ls (.long b :: .long a :: rest)) := by
  intro T hT X
  obtain ⟨t, st, q⟩ := k T hT X
  exact ⟨t, X.lremZero hexec (g := F0 m pc ls (.long b :: .long a :: rest)) rfl (a := a) (rest := rest) (by rw [h0]) (by rw [hb]; exact d) t st, q⟩
theorem vx_ialdZ {D : va_G} {cl : List vw_C} {ws : va_W} {tys : List (ClassId × FieldType)} {a : Nat} (hexec : p.tables.exec = Jvm.exec) (hb : c.code = cc) (hK : va_K D cl tys s) (hP : va_P D cl ws H) (q0 t0 : Nat) {cA : ClassId} {n : Nat} {f : Nat → Int32} (ha : ws[q0]? = some (a, .inl (cA, n, .inl f))) (ht : tys[t0]? = some (cA, .int)) {i : Int32} (hout : ¬ vp_in i n) (hdg : decode cc pc = .ok (.iaload, 1))
    (k : ∀ tx : String, tx = (toString "Index " ++ toString i ++ toString " out of bounds for length " ++ toString n : String) → vx_Note p l e R s m args below meth c H locs cells slots Q (F0 m pc ls rest) "java/lang/ArrayIndexOutOfBoundsException" tx) : W p l e R s m args below meth c H locs cells slots Q (F0 m pc ls (.int i :: .ref a :: rest)) := by
  intro T hT X
  obtain ⟨t, st, q⟩ := k _ rfl T hT X
  refine ⟨t, ?_, q⟩
  have h1 := X.ialoadOut hexec (by rw [hT]; exact hP q0 _ ha) ((hK.2 t0 _ ht).1 n (fun j => .int (f j))) (j := i) (by show (i < 0 ∨ (arrV _ _ _).slots.size ≤ _); rw [arrV_size]; exact Classical.byContradiction hout) (g := F0 m pc ls (.int i :: .ref a :: rest)) rfl (rest := rest) rfl (by rw [hb]; exact hdg) t
  simp only [arrV_size] at h1
  exact h1 st
theorem vx_iastZ {D : va_G} {cl : List vw_C} {ws : va_W} {tys : List (ClassId × FieldType)} {a : Nat} (hexec : p.tables.exec = Jvm.exec) (hb : c.code = cc) (hK : va_K D cl tys s) (hP : va_P D cl ws H) (q0 t0 : Nat) {cA : ClassId} {n : Nat} {f : Nat → Int32} (ha : ws[q0]? = some (a, .inl (cA, n, .inl f))) (ht : tys[t0]? = some (cA, .int)) {i : Int32} {x : Int32} (hout : ¬ vp_in i n) (hdg : decode cc pc = .ok (.iastore, 1))
    (k : ∀ tx : String, tx = (toString "Index " ++ toString i ++ toString " out of bounds for length " ++ toString n : String) → vx_Note p l e R s m args below meth c H locs cells slots Q (F0 m pc ls rest) "java/lang/ArrayIndexOutOfBoundsException" tx) : W p l e R s m args below meth c H locs cells slots Q (F0 m pc ls (.int x :: .int i :: .ref a :: rest)) := by
  intro T hT X
  obtain ⟨t, st, q⟩ := k _ rfl T hT X
  refine ⟨t, ?_, q⟩
  have h1 := X.iastoreOut hexec (by rw [hT]; exact hP q0 _ ha) ((hK.2 t0 _ ht).1 n (fun j => .int (f j))) (j := i) (by show (i < 0 ∨ (arrV _ _ _).slots.size ≤ _); rw [arrV_size]; exact Classical.byContradiction hout) (g := F0 m pc ls (.int x :: .int i :: .ref a :: rest)) rfl (rest := rest) rfl (by rw [hb]; exact hdg) t
  simp only [arrV_size] at h1
  exact h1 st
theorem vx_baldZ {D : va_G} {cl : List vw_C} {ws : va_W} {tys : List (ClassId × FieldType)} {a : Nat} (hexec : p.tables.exec = Jvm.exec) (hb : c.code = cc) (hK : va_K D cl tys s) (hP : va_P D cl ws H) (q0 t0 : Nat) {cA : ClassId} {n : Nat} {f : Nat → Int32} (ha : ws[q0]? = some (a, .inl (cA, n, .inl f))) (ht : tys[t0]? = some (cA, .byte)) {i : Int32} (hout : ¬ vp_in i n) (hdg : decode cc pc = .ok (.baload, 1))
    (k : ∀ tx : String, tx = (toString "Index " ++ toString i ++ toString " out of bounds for length " ++ toString n : String) → vx_Note p l e R s m args below meth c H locs cells slots Q (F0 m pc ls rest) "java/lang/ArrayIndexOutOfBoundsException" tx) : W p l e R s m args below meth c H locs cells slots Q (F0 m pc ls (.int i :: .ref a :: rest)) := by
  intro T hT X
  obtain ⟨t, st, q⟩ := k _ rfl T hT X
  refine ⟨t, ?_, q⟩
  have h1 := X.baloadOut hexec (by rw [hT]; exact hP q0 _ ha) ((hK.2 t0 _ ht).1 n (fun j => .int (f j))) (j := i) (by show (i < 0 ∨ (arrV _ _ _).slots.size ≤ _); rw [arrV_size]; exact Classical.byContradiction hout) (g := F0 m pc ls (.int i :: .ref a :: rest)) rfl (rest := rest) rfl (by rw [hb]; exact hdg) t
  simp only [arrV_size] at h1
  exact h1 st
theorem vx_bastZ {D : va_G} {cl : List vw_C} {ws : va_W} {tys : List (ClassId × FieldType)} {a : Nat} (hexec : p.tables.exec = Jvm.exec) (hb : c.code = cc) (hK : va_K D cl tys s) (hP : va_P D cl ws H) (q0 t0 : Nat) {cA : ClassId} {n : Nat} {f : Nat → Int32} (ha : ws[q0]? = some (a, .inl (cA, n, .inl f))) (ht : tys[t0]? = some (cA, .byte)) {i : Int32} {x : Int32} (hout : ¬ vp_in i n) (hdg : decode cc pc = .ok (.bastore, 1))
    (k : ∀ tx : String, tx = (toString "Index " ++ toString i ++ toString " out of bounds for length " ++ toString n : String) → vx_Note p l e R s m args below meth c H locs cells slots Q (F0 m pc ls rest) "java/lang/ArrayIndexOutOfBoundsException" tx) : W p l e R s m args below meth c H locs cells slots Q (F0 m pc ls (.int x :: .int i :: .ref a :: rest)) := by
  intro T hT X
  obtain ⟨t, st, q⟩ := k _ rfl T hT X
  refine ⟨t, ?_, q⟩
  have h1 := X.bastoreOut hexec (by rw [hT]; exact hP q0 _ ha) ((hK.2 t0 _ ht).1 n (fun j => .int (f j))) (j := i) (by show (i < 0 ∨ (arrV _ _ _).slots.size ≤ _); rw [arrV_size]; exact Classical.byContradiction hout) (g := F0 m pc ls (.int x :: .int i :: .ref a :: rest)) rfl (rest := rest) rfl (by rw [hb]; exact hdg) t
  simp only [arrV_size] at h1
  exact h1 st
theorem vx_zaldZ {D : va_G} {cl : List vw_C} {ws : va_W} {tys : List (ClassId × FieldType)} {a : Nat} (hexec : p.tables.exec = Jvm.exec) (hb : c.code = cc) (hK : va_K D cl tys s) (hP : va_P D cl ws H) (q0 t0 : Nat) {cA : ClassId} {n : Nat} {f : Nat → Int32} (ha : ws[q0]? = some (a, .inl (cA, n, .inl f))) (ht : tys[t0]? = some (cA, .boolean)) {i : Int32} (hout : ¬ vp_in i n) (hdg : decode cc pc = .ok (.baload, 1))
    (k : ∀ tx : String, tx = (toString "Index " ++ toString i ++ toString " out of bounds for length " ++ toString n : String) → vx_Note p l e R s m args below meth c H locs cells slots Q (F0 m pc ls rest) "java/lang/ArrayIndexOutOfBoundsException" tx) : W p l e R s m args below meth c H locs cells slots Q (F0 m pc ls (.int i :: .ref a :: rest)) := by
  intro T hT X
  obtain ⟨t, st, q⟩ := k _ rfl T hT X
  refine ⟨t, ?_, q⟩
  have h1 := X.baloadOut hexec (by rw [hT]; exact hP q0 _ ha) ((hK.2 t0 _ ht).1 n (fun j => .int (f j))) (j := i) (by show (i < 0 ∨ (arrV _ _ _).slots.size ≤ _); rw [arrV_size]; exact Classical.byContradiction hout) (g := F0 m pc ls (.int i :: .ref a :: rest)) rfl (rest := rest) rfl (by rw [hb]; exact hdg) t
  simp only [arrV_size] at h1
  exact h1 st
theorem vx_zastZ {D : va_G} {cl : List vw_C} {ws : va_W} {tys : List (ClassId × FieldType)} {a : Nat} (hexec : p.tables.exec = Jvm.exec) (hb : c.code = cc) (hK : va_K D cl tys s) (hP : va_P D cl ws H) (q0 t0 : Nat) {cA : ClassId} {n : Nat} {f : Nat → Int32} (ha : ws[q0]? = some (a, .inl (cA, n, .inl f))) (ht : tys[t0]? = some (cA, .boolean)) {i : Int32} {x : Int32} (hout : ¬ vp_in i n) (hdg : decode cc pc = .ok (.bastore, 1))
    (k : ∀ tx : String, tx = (toString "Index " ++ toString i ++ toString " out of bounds for length " ++ toString n : String) → vx_Note p l e R s m args below meth c H locs cells slots Q (F0 m pc ls rest) "java/lang/ArrayIndexOutOfBoundsException" tx) : W p l e R s m args below meth c H locs cells slots Q (F0 m pc ls (.int x :: .int i :: .ref a :: rest)) := by
  intro T hT X
  obtain ⟨t, st, q⟩ := k _ rfl T hT X
  refine ⟨t, ?_, q⟩
  have h1 := X.bastoreOut hexec (by rw [hT]; exact hP q0 _ ha) ((hK.2 t0 _ ht).1 n (fun j => .int (f j))) (j := i) (by show (i < 0 ∨ (arrV _ _ _).slots.size ≤ _); rw [arrV_size]; exact Classical.byContradiction hout) (g := F0 m pc ls (.int x :: .int i :: .ref a :: rest)) rfl (rest := rest) rfl (by rw [hb]; exact hdg) t
  simp only [arrV_size] at h1
  exact h1 st
theorem vx_caldZ {D : va_G} {cl : List vw_C} {ws : va_W} {tys : List (ClassId × FieldType)} {a : Nat} (hexec : p.tables.exec = Jvm.exec) (hb : c.code = cc) (hK : va_K D cl tys s) (hP : va_P D cl ws H) (q0 t0 : Nat) {cA : ClassId} {n : Nat} {f : Nat → Int32} (ha : ws[q0]? = some (a, .inl (cA, n, .inl f))) (ht : tys[t0]? = some (cA, .char)) {i : Int32} (hout : ¬ vp_in i n) (hdg : decode cc pc = .ok (.caload, 1))
    (k : ∀ tx : String, tx = (toString "Index " ++ toString i ++ toString " out of bounds for length " ++ toString n : String) → vx_Note p l e R s m args below meth c H locs cells slots Q (F0 m pc ls rest) "java/lang/ArrayIndexOutOfBoundsException" tx) : W p l e R s m args below meth c H locs cells slots Q (F0 m pc ls (.int i :: .ref a :: rest)) := by
  intro T hT X
  obtain ⟨t, st, q⟩ := k _ rfl T hT X
  refine ⟨t, ?_, q⟩
  have h1 := X.caloadOut hexec (by rw [hT]; exact hP q0 _ ha) ((hK.2 t0 _ ht).1 n (fun j => .int (f j))) (j := i) (by show (i < 0 ∨ (arrV _ _ _).slots.size ≤ _); rw [arrV_size]; exact Classical.byContradiction hout) (g := F0 m pc ls (.int i :: .ref a :: rest)) rfl (rest := rest) rfl (by rw [hb]; exact hdg) t
  simp only [arrV_size] at h1
  exact h1 st
theorem vx_castZ {D : va_G} {cl : List vw_C} {ws : va_W} {tys : List (ClassId × FieldType)} {a : Nat} (hexec : p.tables.exec = Jvm.exec) (hb : c.code = cc) (hK : va_K D cl tys s) (hP : va_P D cl ws H) (q0 t0 : Nat) {cA : ClassId} {n : Nat} {f : Nat → Int32} (ha : ws[q0]? = some (a, .inl (cA, n, .inl f))) (ht : tys[t0]? = some (cA, .char)) {i : Int32} {x : Int32} (hout : ¬ vp_in i n) (hdg : decode cc pc = .ok (.castore, 1))
    (k : ∀ tx : String, tx = (toString "Index " ++ toString i ++ toString " out of bounds for length " ++ toString n : String) → vx_Note p l e R s m args below meth c H locs cells slots Q (F0 m pc ls rest) "java/lang/ArrayIndexOutOfBoundsException" tx) : W p l e R s m args below meth c H locs cells slots Q (F0 m pc ls (.int x :: .int i :: .ref a :: rest)) := by
  intro T hT X
  obtain ⟨t, st, q⟩ := k _ rfl T hT X
  refine ⟨t, ?_, q⟩
  have h1 := X.castoreOut hexec (by rw [hT]; exact hP q0 _ ha) ((hK.2 t0 _ ht).1 n (fun j => .int (f j))) (j := i) (by show (i < 0 ∨ (arrV _ _ _).slots.size ≤ _); rw [arrV_size]; exact Classical.byContradiction hout) (g := F0 m pc ls (.int x :: .int i :: .ref a :: rest)) rfl (rest := rest) rfl (by rw [hb]; exact hdg) t
  simp only [arrV_size] at h1
  exact h1 st
theorem vx_saldZ {D : va_G} {cl : List vw_C} {ws : va_W} {tys : List (ClassId × FieldType)} {a : Nat} (hexec : p.tables.exec = Jvm.exec) (hb : c.code = cc) (hK : va_K D cl tys s) (hP : va_P D cl ws H) (q0 t0 : Nat) {cA : ClassId} {n : Nat} {f : Nat → Int32} (ha : ws[q0]? = some (a, .inl (cA, n, .inl f))) (ht : tys[t0]? = some (cA, .short)) {i : Int32} (hout : ¬ vp_in i n) (hdg : decode cc pc = .ok (.saload, 1))
    (k : ∀ tx : String, tx = (toString "Index " ++ toString i ++ toString " out of bounds for length " ++ toString n : String) → vx_Note p l e R s m args below meth c H locs cells slots Q (F0 m pc ls rest) "java/lang/ArrayIndexOutOfBoundsException" tx) : W p l e R s m args below meth c H locs cells slots Q (F0 m pc ls (.int i :: .ref a :: rest)) := by
  intro T hT X
  obtain ⟨t, st, q⟩ := k _ rfl T hT X
  refine ⟨t, ?_, q⟩
  have h1 := X.saloadOut hexec (by rw [hT]; exact hP q0 _ ha) ((hK.2 t0 _ ht).1 n (fun j => .int (f j))) (j := i) (by show (i < 0 ∨ (arrV _ _ _).slots.size ≤ _); rw [arrV_size]; exact Classical.byContradiction hout) (g := F0 m pc ls (.int i :: .ref a :: rest)) rfl (rest := rest) rfl (by rw [hb]; exact hdg) t
  simp only [arrV_size] at h1
  exact h1 st
theorem vx_sastZ {D : va_G} {cl : List vw_C} {ws : va_W} {tys : List (ClassId × FieldType)} {a : Nat} (hexec : p.tables.exec = Jvm.exec) (hb : c.code = cc) (hK : va_K D cl tys s) (hP : va_P D cl ws H) (q0 t0 : Nat) {cA : ClassId} {n : Nat} {f : Nat → Int32} (ha : ws[q0]? = some (a, .inl (cA, n, .inl f))) (ht : tys[t0]? = some (cA, .short)) {i : Int32} {x : Int32} (hout : ¬ vp_in i n) (hdg : decode cc pc = .ok (.sastore, 1))
    (k : ∀ tx : String, tx = (toString "Index " ++ toString i ++ toString " out of bounds for length " ++ toString n : String) → vx_Note p l e R s m args below meth c H locs cells slots Q (F0 m pc ls rest) "java/lang/ArrayIndexOutOfBoundsException" tx) : W p l e R s m args below meth c H locs cells slots Q (F0 m pc ls (.int x :: .int i :: .ref a :: rest)) := by
  intro T hT X
  obtain ⟨t, st, q⟩ := k _ rfl T hT X
  refine ⟨t, ?_, q⟩
  have h1 := X.sastoreOut hexec (by rw [hT]; exact hP q0 _ ha) ((hK.2 t0 _ ht).1 n (fun j => .int (f j))) (j := i) (by show (i < 0 ∨ (arrV _ _ _).slots.size ≤ _); rw [arrV_size]; exact Classical.byContradiction hout) (g := F0 m pc ls (.int x :: .int i :: .ref a :: rest)) rfl (rest := rest) rfl (by rw [hb]; exact hdg) t
  simp only [arrV_size] at h1
  exact h1 st
theorem vx_laldZ {D : va_G} {cl : List vw_C} {ws : va_W} {tys : List (ClassId × FieldType)} {a : Nat} (hexec : p.tables.exec = Jvm.exec) (hb : c.code = cc) (hK : va_K D cl tys s) (hP : va_P D cl ws H) (q0 t0 : Nat) {cA : ClassId} {n : Nat} {f : Nat → Int64} (ha : ws[q0]? = some (a, .inl (cA, n, .inr (.inl f)))) (ht : tys[t0]? = some (cA, .long)) {i : Int32} (hout : ¬ vp_in i n) (hdg : decode cc pc = .ok (.laload, 1))
    (k : ∀ tx : String, tx = (toString "Index " ++ toString i ++ toString " out of bounds for length " ++ toString n : String) → vx_Note p l e R s m args below meth c H locs cells slots Q (F0 m pc ls rest) "java/lang/ArrayIndexOutOfBoundsException" tx) : W p l e R s m args below meth c H locs cells slots Q (F0 m pc ls (.int i :: .ref a :: rest)) := by
  intro T hT X
  obtain ⟨t, st, q⟩ := k _ rfl T hT X
  refine ⟨t, ?_, q⟩
  have h1 := X.laloadOut hexec (by rw [hT]; exact hP q0 _ ha) ((hK.2 t0 _ ht).1 n (fun j => .long (f j))) (j := i) (by show (i < 0 ∨ (arrV _ _ _).slots.size ≤ _); rw [arrV_size]; exact Classical.byContradiction hout) (g := F0 m pc ls (.int i :: .ref a :: rest)) rfl (rest := rest) rfl (by rw [hb]; exact hdg) t
  simp only [arrV_size] at h1
  exact h1 st
theorem vx_lastZ {D : va_G} {cl : List vw_C} {ws : va_W} {tys : List (ClassId × FieldType)} {a : Nat} (hexec : p.tables.exec = Jvm.exec) (hb : c.code = cc) (hK : va_K D cl tys s) (hP : va_P D cl ws H) (q0 t0 : Nat) {cA : ClassId} {n : Nat} {f : Nat → Int64} (ha : ws[q0]? = some (a, .inl (cA, n, .inr (.inl f)))) (ht : tys[t0]? = some (cA, .long)) {i : Int32} {x : Int64} (hout : ¬ vp_in i n) (hdg : decode cc pc = .ok (.lastore, 1))
    (k : ∀ tx : String, tx = (toString "Index " ++ toString i ++ toString " out of bounds for length " ++ toString n : String) → vx_Note p l e R s m args below meth c H locs cells slots Q (F0 m pc ls rest) "java/lang/ArrayIndexOutOfBoundsException" tx) : W p l e R s m args below meth c H locs cells slots Q (F0 m pc ls (.long x :: .int i :: .ref a :: rest)) := by
  intro T hT X
  obtain ⟨t, st, q⟩ := k _ rfl T hT X
  refine ⟨t, ?_, q⟩
  have h1 := X.lastoreOut hexec (by rw [hT]; exact hP q0 _ ha) ((hK.2 t0 _ ht).1 n (fun j => .long (f j))) (j := i) (by show (i < 0 ∨ (arrV _ _ _).slots.size ≤ _); rw [arrV_size]; exact Classical.byContradiction hout) (g := F0 m pc ls (.long x :: .int i :: .ref a :: rest)) rfl (rest := rest) rfl (by rw [hb]; exact hdg) t
  simp only [arrV_size] at h1
  exact h1 st
theorem vx_faldZ {D : va_G} {cl : List vw_C} {ws : va_W} {tys : List (ClassId × FieldType)} {a : Nat} (hexec : p.tables.exec = Jvm.exec) (hb : c.code = cc) (hK : va_K D cl tys s) (hP : va_P D cl ws H) (q0 t0 : Nat) {cA : ClassId} {n : Nat} {f : Nat → UInt32} (ha : ws[q0]? = some (a, .inl (cA, n, .inr (.inr (.inl f))))) (ht : tys[t0]? = some (cA, .float)) {i : Int32} (hout : ¬ vp_in i n) (hdg : decode cc pc = .ok (.faload, 1))
    (k : ∀ tx : String, tx = (toString "Index " ++ toString i ++ toString " out of bounds for length " ++ toString n : String) → vx_Note p l e R s m args below meth c H locs cells slots Q (F0 m pc ls rest) "java/lang/ArrayIndexOutOfBoundsException" tx) : W p l e R s m args below meth c H locs cells slots Q (F0 m pc ls (.int i :: .ref a :: rest)) := by
  intro T hT X
  obtain ⟨t, st, q⟩ := k _ rfl T hT X
  refine ⟨t, ?_, q⟩
  have h1 := X.faloadOut hexec (by rw [hT]; exact hP q0 _ ha) ((hK.2 t0 _ ht).1 n (fun j => .float (f j))) (j := i) (by show (i < 0 ∨ (arrV _ _ _).slots.size ≤ _); rw [arrV_size]; exact Classical.byContradiction hout) (g := F0 m pc ls (.int i :: .ref a :: rest)) rfl (rest := rest) rfl (by rw [hb]; exact hdg) t
  simp only [arrV_size] at h1
  exact h1 st
theorem vx_fastZ {D : va_G} {cl : List vw_C} {ws : va_W} {tys : List (ClassId × FieldType)} {a : Nat} (hexec : p.tables.exec = Jvm.exec) (hb : c.code = cc) (hK : va_K D cl tys s) (hP : va_P D cl ws H) (q0 t0 : Nat) {cA : ClassId} {n : Nat} {f : Nat → UInt32} (ha : ws[q0]? = some (a, .inl (cA, n, .inr (.inr (.inl f))))) (ht : tys[t0]? = some (cA, .float)) {i : Int32} {x : UInt32} (hout : ¬ vp_in i n) (hdg : decode cc pc = .ok (.fastore, 1))
    (k : ∀ tx : String, tx = (toString "Index " ++ toString i ++ toString " out of bounds for length " ++ toString n : String) → vx_Note p l e R s m args below meth c H locs cells slots Q (F0 m pc ls rest) "java/lang/ArrayIndexOutOfBoundsException" tx) : W p l e R s m args below meth c H locs cells slots Q (F0 m pc ls (.float x :: .int i :: .ref a :: rest)) := by
  intro T hT X
  obtain ⟨t, st, q⟩ := k _ rfl T hT X
  refine ⟨t, ?_, q⟩
  have h1 := X.fastoreOut hexec (by rw [hT]; exact hP q0 _ ha) ((hK.2 t0 _ ht).1 n (fun j => .float (f j))) (j := i) (by show (i < 0 ∨ (arrV _ _ _).slots.size ≤ _); rw [arrV_size]; exact Classical.byContradiction hout) (g := F0 m pc ls (.float x :: .int i :: .ref a :: rest)) rfl (rest := rest) rfl (by rw [hb]; exact hdg) t
  simp only [arrV_size] at h1
  exact h1 st
theorem vx_daldZ {D : va_G} {cl : List vw_C} {ws : va_W} {tys : List (ClassId × FieldType)} {a : Nat} (hexec : p.tables.exec = Jvm.exec) (hb : c.code = cc) (hK : va_K D cl tys s) (hP : va_P D cl ws H) (q0 t0 : Nat) {cA : ClassId} {n : Nat} {f : Nat → UInt64} (ha : ws[q0]? = some (a, .inl (cA, n, .inr (.inr (.inr (.inl f)))))) (ht : tys[t0]? = some (cA, .double)) {i : Int32} (hout : ¬ vp_in i n) (hdg : decode cc pc = .ok (.daload, 1))
    (k : ∀ tx : String, tx = (toString "Index " ++ toString i ++ toString " out of bounds for length " ++ toString n : String) → vx_Note p l e R s m args below meth c H locs cells slots Q (F0 m pc ls rest) "java/lang/ArrayIndexOutOfBoundsException" tx) : W p l e R s m args below meth c H locs cells slots Q (F0 m pc ls (.int i :: .ref a :: rest)) := by
  intro T hT X
  obtain ⟨t, st, q⟩ := k _ rfl T hT X
  refine ⟨t, ?_, q⟩
  have h1 := X.daloadOut hexec (by rw [hT]; exact hP q0 _ ha) ((hK.2 t0 _ ht).1 n (fun j => .double (f j))) (j := i) (by show (i < 0 ∨ (arrV _ _ _).slots.size ≤ _); rw [arrV_size]; exact Classical.byContradiction hout) (g := F0 m pc ls (.int i :: .ref a :: rest)) rfl (rest := rest) rfl (by rw [hb]; exact hdg) t
  simp only [arrV_size] at h1
  exact h1 st
theorem vx_dastZ {D : va_G} {cl : List vw_C} {ws : va_W} {tys : List (ClassId × FieldType)} {a : Nat} (hexec : p.tables.exec = Jvm.exec) (hb : c.code = cc) (hK : va_K D cl tys s) (hP : va_P D cl ws H) (q0 t0 : Nat) {cA : ClassId} {n : Nat} {f : Nat → UInt64} (ha : ws[q0]? = some (a, .inl (cA, n, .inr (.inr (.inr (.inl f)))))) (ht : tys[t0]? = some (cA, .double)) {i : Int32} {x : UInt64} (hout : ¬ vp_in i n) (hdg : decode cc pc = .ok (.dastore, 1))
    (k : ∀ tx : String, tx = (toString "Index " ++ toString i ++ toString " out of bounds for length " ++ toString n : String) → vx_Note p l e R s m args below meth c H locs cells slots Q (F0 m pc ls rest) "java/lang/ArrayIndexOutOfBoundsException" tx) : W p l e R s m args below meth c H locs cells slots Q (F0 m pc ls (.double x :: .int i :: .ref a :: rest)) := by
  intro T hT X
  obtain ⟨t, st, q⟩ := k _ rfl T hT X
  refine ⟨t, ?_, q⟩
  have h1 := X.dastoreOut hexec (by rw [hT]; exact hP q0 _ ha) ((hK.2 t0 _ ht).1 n (fun j => .double (f j))) (j := i) (by show (i < 0 ∨ (arrV _ _ _).slots.size ≤ _); rw [arrV_size]; exact Classical.byContradiction hout) (g := F0 m pc ls (.double x :: .int i :: .ref a :: rest)) rfl (rest := rest) rfl (by rw [hb]; exact hdg) t
  simp only [arrV_size] at h1
  exact h1 st
theorem vx_arraylengthN (hexec : p.tables.exec = Jvm.exec) (hb : c.code = cc) (hdg : decode cc pc = .ok (.arraylength, 1)) (k : vx_NoteN p l e R s m args below meth c H locs cells slots Q (F0 m pc ls rest)) : W p l e R s m args below meth c H locs cells slots Q (F0 m pc ls (.null :: rest)) := by
  intro T hT X
  obtain ⟨t, st, q⟩ := k T hT X
  exact ⟨t, X.arraylengthNull hexec (g := F0 m pc ls (.null :: rest)) rfl (rest := rest) rfl (by rw [hb]; exact hdg) t st, q⟩
theorem vx_ialoadN (hexec : p.tables.exec = Jvm.exec) (hb : c.code = cc) {i : Int32} (hdg : decode cc pc = .ok (.iaload, 1)) (k : vx_NoteN p l e R s m args below meth c H locs cells slots Q (F0 m pc ls rest)) : W p l e R s m args below meth c H locs cells slots Q (F0 m pc ls (.int i :: .null :: rest)) := by
  intro T hT X
  obtain ⟨t, st, q⟩ := k T hT X
  exact ⟨t, X.ialoadNull hexec (g := F0 m pc ls (.int i :: .null :: rest)) rfl (rest := rest) rfl (by rw [hb]; exact hdg) t st, q⟩
theorem vx_laloadN (hexec : p.tables.exec = Jvm.exec) (hb : c.code = cc) {i : Int32} (hdg : decode cc pc = .ok (.laload, 1)) (k : vx_NoteN p l e R s m args below meth c H locs cells slots Q (F0 m pc ls rest)) : W p l e R s m args below meth c H locs cells slots Q (F0 m pc ls (.int i :: .null :: rest)) := by
  intro T hT X
  obtain ⟨t, st, q⟩ := k T hT X
  exact ⟨t, X.laloadNull hexec (g := F0 m pc ls (.int i :: .null :: rest)) rfl (rest := rest) rfl (by rw [hb]; exact hdg) t st, q⟩
theorem vx_faloadN (hexec : p.tables.exec = Jvm.exec) (hb : c.code = cc) {i : Int32} (hdg : decode cc pc = .ok (.faload, 1)) (k : vx_NoteN p l e R s m args below meth c H locs cells slots Q (F0 m pc ls rest)) : W p l e R s m args below meth c H locs cells slots Q (F0 m pc ls (.int i :: .null :: rest)) := by
  intro T hT X
  obtain ⟨t, st, q⟩ := k T hT X
  exact ⟨t, X.faloadNull hexec (g := F0 m pc ls (.int i :: .null :: rest)) rfl (rest := rest) rfl (by rw [hb]; exact hdg) t st, q⟩
theorem vx_daloadN (hexec : p.tables.exec = Jvm.exec) (hb : c.code = cc) {i : Int32} (hdg : decode cc pc = .ok (.daload, 1)) (k : vx_NoteN p l e R s m args below meth c H locs cells slots Q (F0 m pc ls rest)) : W p l e R s m args below meth c H locs cells slots Q (F0 m pc ls (.int i :: .null :: rest)) := by
  intro T hT X
  obtain ⟨t, st, q⟩ := k T hT X
  exact ⟨t, X.daloadNull hexec (g := F0 m pc ls (.int i :: .null :: rest)) rfl (rest := rest) rfl (by rw [hb]; exact hdg) t st, q⟩
theorem vx_aaloadN (hexec : p.tables.exec = Jvm.exec) (hb : c.code = cc) {i : Int32} (hdg : decode cc pc = .ok (.aaload, 1)) (k : vx_NoteN p l e R s m args below meth c H locs cells slots Q (F0 m pc ls rest)) : W p l e R s m args below meth c H locs cells slots Q (F0 m pc ls (.int i :: .null :: rest)) := by
  intro T hT X
  obtain ⟨t, st, q⟩ := k T hT X
  exact ⟨t, X.aaloadNull hexec (g := F0 m pc ls (.int i :: .null :: rest)) rfl (rest := rest) rfl (by rw [hb]; exact hdg) t st, q⟩
theorem vx_baloadN (hexec : p.tables.exec = Jvm.exec) (hb : c.code = cc) {i : Int32} (hdg : decode cc pc = .ok (.baload, 1)) (k : vx_NoteN p l e R s m args below meth c H locs cells slots Q (F0 m pc ls rest)) : W p l e R s m args below meth c H locs cells slots Q (F0 m pc ls (.int i :: .null :: rest)) := by
  intro T hT X
  obtain ⟨t, st, q⟩ := k T hT X
  exact ⟨t, X.baloadNull hexec (g := F0 m pc ls (.int i :: .null :: rest)) rfl (rest := rest) rfl (by rw [hb]; exact hdg) t st, q⟩
theorem vx_caloadN (hexec : p.tables.exec = Jvm.exec) (hb : c.code = cc) {i : Int32} (hdg : decode cc pc = .ok (.caload, 1)) (k : vx_NoteN p l e R s m args below meth c H locs cells slots Q (F0 m pc ls rest)) : W p l e R s m args below meth c H locs cells slots Q (F0 m pc ls (.int i :: .null :: rest)) := by
  intro T hT X
  obtain ⟨t, st, q⟩ := k T hT X
  exact ⟨t, X.caloadNull hexec (g := F0 m pc ls (.int i :: .null :: rest)) rfl (rest := rest) rfl (by rw [hb]; exact hdg) t st, q⟩
theorem vx_saloadN (hexec : p.tables.exec = Jvm.exec) (hb : c.code = cc) {i : Int32} (hdg : decode cc pc = .ok (.saload, 1)) (k : vx_NoteN p l e R s m args below meth c H locs cells slots Q (F0 m pc ls rest)) : W p l e R s m args below meth c H locs cells slots Q (F0 m pc ls (.int i :: .null :: rest)) := by
  intro T hT X
  obtain ⟨t, st, q⟩ := k T hT X
  exact ⟨t, X.saloadNull hexec (g := F0 m pc ls (.int i :: .null :: rest)) rfl (rest := rest) rfl (by rw [hb]; exact hdg) t st, q⟩
theorem vx_iastoreN (hexec : p.tables.exec = Jvm.exec) (hb : c.code = cc) {x : Int32} {i : Int32} (hdg : decode cc pc = .ok (.iastore, 1)) (k : vx_NoteN p l e R s m args below meth c H locs cells slots Q (F0 m pc ls rest)) : W p l e R s m args below meth c H locs cells slots Q (F0 m pc ls (.int x :: .int i :: .null :: rest)) := by
  intro T hT X
  obtain ⟨t, st, q⟩ := k T hT X
  exact ⟨t, X.iastoreNull hexec (g := F0 m pc ls (.int x :: .int i :: .null :: rest)) rfl (rest := rest) rfl (by rw [hb]; exact hdg) t st, q⟩
theorem vx_lastoreN (hexec : p.tables.exec = Jvm.exec) (hb : c.code = cc) {x : Int64} {i : Int32} (hdg : decode cc pc = .ok (.lastore, 1)) (k : vx_NoteN p l e R s m args below meth c H locs cells slots Q (F0 m pc ls rest)) : W p l e R s m args below meth c H locs cells slots Q (F0 m pc ls (.long x :: .int i :: .null :: rest)) := by
  intro T hT X
  obtain ⟨t, st, q⟩ := k T hT X
  exact ⟨t, X.lastoreNull hexec (g := F0 m pc ls (.long x :: .int i :: .null :: rest)) rfl (rest := rest) rfl (by rw [hb]; exact hdg) t st, q⟩
theorem vx_fastoreN (hexec : p.tables.exec = Jvm.exec) (hb : c.code = cc) {x : UInt32} {i : Int32} (hdg : decode cc pc = .ok (.fastore, 1)) (k : vx_NoteN p l e R s m args below meth c H locs cells slots Q (F0 m pc ls rest)) : W p l e R s m args below meth c H locs cells slots Q (F0 m pc ls (.float x :: .int i :: .null :: rest)) := by
  intro T hT X
  obtain ⟨t, st, q⟩ := k T hT X
  exact ⟨t, X.fastoreNull hexec (g := F0 m pc ls (.float x :: .int i :: .null :: rest)) rfl (rest := rest) rfl (by rw [hb]; exact hdg) t st, q⟩
theorem vx_dastoreN (hexec : p.tables.exec = Jvm.exec) (hb : c.code = cc) {x : UInt64} {i : Int32} (hdg : decode cc pc = .ok (.dastore, 1)) (k : vx_NoteN p l e R s m args below meth c H locs cells slots Q (F0 m pc ls rest)) : W p l e R s m args below meth c H locs cells slots Q (F0 m pc ls (.double x :: .int i :: .null :: rest)) := by
  intro T hT X
  obtain ⟨t, st, q⟩ := k T hT X
  exact ⟨t, X.dastoreNull hexec (g := F0 m pc ls (.double x :: .int i :: .null :: rest)) rfl (rest := rest) rfl (by rw [hb]; exact hdg) t st, q⟩
theorem vx_bastoreN (hexec : p.tables.exec = Jvm.exec) (hb : c.code = cc) {x : Int32} {i : Int32} (hdg : decode cc pc = .ok (.bastore, 1)) (k : vx_NoteN p l e R s m args below meth c H locs cells slots Q (F0 m pc ls rest)) : W p l e R s m args below meth c H locs cells slots Q (F0 m pc ls (.int x :: .int i :: .null :: rest)) := by
  intro T hT X
  obtain ⟨t, st, q⟩ := k T hT X
  exact ⟨t, X.bastoreNull hexec (g := F0 m pc ls (.int x :: .int i :: .null :: rest)) rfl (rest := rest) rfl (by rw [hb]; exact hdg) t st, q⟩
theorem vx_castoreN (hexec : p.tables.exec = Jvm.exec) (hb : c.code = cc) {x : Int32} {i : Int32} (hdg : decode cc pc = .ok (.castore, 1)) (k : vx_NoteN p l e R s m args below meth c H locs cells slots Q (F0 m pc ls rest)) : W p l e R s m args below meth c H locs cells slots Q (F0 m pc ls (.int x :: .int i :: .null :: rest)) := by
  intro T hT X
  obtain ⟨t, st, q⟩ := k T hT X
  exact ⟨t, X.castoreNull hexec (g := F0 m pc ls (.int x :: .int i :: .null :: rest)) rfl (rest := rest) rfl (by rw [hb]; exact hdg) t st, q⟩
theorem vx_sastoreN (hexec : p.tables.exec = Jvm.exec) (hb : c.code = cc) {x : Int32} {i : Int32} (hdg : decode cc pc = .ok (.sastore, 1)) (k : vx_NoteN p l e R s m args below meth c H locs cells slots Q (F0 m pc ls rest)) : W p l e R s m args below meth c H locs cells slots Q (F0 m pc ls (.int x :: .int i :: .null :: rest)) := by
  intro T hT X
  obtain ⟨t, st, q⟩ := k T hT X
  exact ⟨t, X.sastoreNull hexec (g := F0 m pc ls (.int x :: .int i :: .null :: rest)) rfl (rest := rest) rfl (by rw [hb]; exact hdg) t st, q⟩
theorem vx_invokeN {own C : String} {index maxL : Nat} {y : MethodName} {bytes : ByteArray} {ret : Option FieldType} (hexec : p.tables.exec = Jvm.exec) (hb : c.code = cc) (hown : s.vm.findClass own = some m.cls) (hlink : (Cond.methodLink own index y).before args s = true) (hinst : (Cond.instanceMethod y).before args s = true) (hcode : (Cond.code y bytes maxL ret).before args s = true) (hsel : (Cond.selects C y y).before args s = true)
    (hx : y.cls ≠ "java/lang/invoke/MethodHandle" ∧ y.cls ≠ "java/lang/invoke/VarHandle") {As : List Value} (hlen : (parseMethodDescriptor y.desc).map (fun d => d.parameters.length) = some As.length) (hdg : decode cc pc = .ok (.invokevirtual index, 3))
    (k : vx_NoteN p l e R s m args below meth c H locs cells slots Q (F0 m pc ls rest)) {st0 : List Value} (hst : st0 = As.reverse ++ .null :: rest) : W p l e R s m args below meth c H locs cells slots Q (F0 m pc ls st0) := by
  intro T hT X
  obtain ⟨r0, r, hn, hrm, hstR, hsigR⟩ := va_Decl.of hinst hcode
  obtain ⟨c2, r2, m2, q1, q2, q3, q4, kP, hkP, hkPi⟩ := Cond.selects_spec hsel
  cases hn.symm.trans q3
  have hl9 : As.length = r.sig.parameters.length := by
    rw [hsigR] at hlen
    exact (Option.some.inj hlen).symm
  obtain ⟨vm', X1, st1⟩ := X.invokevirtualNull hexec hown hlink hn hrm hstR hkP hkPi hx (g := F0 m pc ls st0) rfl (argsL := As) (rest := rest) hl9 hst (by rw [hb]; exact hdg)
  obtain ⟨t, st, q⟩ := k (T.setVm vm') hT X1
  exact ⟨t, st1 t st, q⟩
theorem vx_newarrayZ {atype : ArrayType} (hexec : p.tables.exec = Jvm.exec) (hb : c.code = cc) {n : Int32} (h0 : n < 0) (hdg : decode cc pc = .ok (.newarray atype, 2)) (k : ∀ tx : String, tx = toString n → vx_Note p l e R s m args below meth c H locs cells slots Q (F0 m pc ls rest) "java/lang/NegativeArraySizeException" tx) : W p l e R s m args below meth c H locs cells slots Q (F0 m pc ls (.int n :: rest)) := by
  intro T hT X
  obtain ⟨t, st, q⟩ := k _ rfl T hT X
  exact ⟨t, X.newarrayNegative hexec (g := F0 m pc ls (.int n :: rest)) rfl h0 (rest := rest) rfl (by rw [hb]; exact hdg) t st, q⟩
end
end VXM
/-! ===== END ===== -/
/-! ===== BEGIN an exception as an object: made, kept, thrown later (no traces kept) ===== -/
section VXK
variable {p : Program} {l : Launch} {e : Env} {R : Room} {s : State} {m₀ : MethodId} {args : Array Value} {below : List Frame} {meth : Method} {c : Code} {W : State} {locs : List Loc} {cells slots : Nat}
set_option maxHeartbeats 1000000 in
theorem vx_ctorMadeS (X : Stand p l e R s m₀ args below meth c W locs cells slots) (hexec : p.tables.exec = Jvm.exec) (htr : e.platform.stackTraces = false) {own cls : String} {names : List String} {ic : Nat}
    (hown : s.vm.findClass own = some m₀.cls) (hcls : Bundle.fit cls = true) (hnames : ∀ n ∈ names, Bundle.fit n = true)
    (h : ∀ a ∈ Bundle.ownAtoms own ic cls names, a.before args s = true)
    (hlocs : ∀ x ∈ locs, ∀ cell, s.heap[x.base]? = some cell → cell.vm.isStatics = false)
    {a : Addr} {cX : ClassId} {kX : Class} (hfoundX : s.vm.findClass cls = some cX) (hkX : s.vm.classes[cX]? = some kX) (hcell : W.heap[a]? = some (freshCell cX kX)) (hnew : s.heap.size ≤ a)
    {msg : Value} (hmsg : msg.isRef = true)
    {g : JFrame} (hg : g.method = m₀) (hsize : g.locals.size = c.maxLocals) {rest : List Value} (hstack : g.stack = msg :: .ref a :: .ref a :: rest)
    (hd6 : decode c.code g.pc = .ok (.invokespecial ic, 3))
    (hRframes : names.length + 3 < R.frames) (hRlocals : 2 * g.monitorRoom + ((Value.ref a :: rest).map fun v => v.category).sum + (13 * (names.length + 1) + 42) ≤ R.locals) :
    ∃ (V : State) (ce : Cell) (L : List Loc), Stand p l e R s m₀ args below meth c (V.setCell a ce) (locs ++ L) cells slots ∧ (∀ y ∈ L, y.base = a) ∧ a < V.heap.size ∧ ce.cls = cX ∧ ce.vm = .none ∧
      ∀ target, Steps p.tables e below ((V.setCell a ce).setTop { g with stack := .ref a :: rest, pc := g.pc + 3 }) target → Steps p.tables e below (W.setTop g) target := by
  have howns : e.platform.frameOwnsMonitors = true := by rw [X.admits.platform]
  have hfin : e.platform.finalization = false := by rw [X.admits.platform]
  have hpl : e.platform.magicAccessors = ({} : Platform).magicAccessors := by rw [X.admits.platform]
  have a' : ∀ x, x ∈ Bundle.ownAtoms own ic cls names → x.holds args s none s [] = true := fun x hx => h x hx
  obtain ⟨T, Z0, L, -, Y⟩ := ThrowableC.of_atoms (args := args) howns hfin hpl (fun x hx => h x (by simp [Bundle.ownAtoms, hx]))
  obtain ⟨Z, M, LZ, LM, hnZ⟩ := Init0T.ofS_atoms (args := args) hpl L Y (fun x hx => h x (by simp [Bundle.ownAtoms, hx]))
  obtain ⟨P1, Ps, hlen, L1, hL, hP1m, hlink1, hlink⟩ := Bundle.chainS (args := args) hpl hnZ names cls hcls hnames (fun x hx => h x (by simp [Bundle.ownAtoms, hx]))
  have hfound : s.vm.findClass cls = some P1.m.cls := findClass_of_methodNamed hP1m
  cases Option.some.inj (hfoundX.symm.trans hfound)
  obtain ⟨c1, kX', hc1, hk, hord, -, -, hn6⟩ := Cond.instantiable_spec (a' (.instantiable cls 6) (by simp [Bundle.ownAtoms]))
  cases Option.some.inj (hc1.symm.trans hfound)
  cases Option.some.inj (hkX.symm.trans hk)
  have hsel0 : selectMethod e.platform s.vm P1.m.cls T.fill0 = .method T.fill0 := by
    obtain ⟨c2, r2, m2, q1, q2, q3, q4, -⟩ := Cond.selects_spec (a' (.selects cls Bundle.tFill0 Bundle.tFill0) (by simp [Bundle.ownAtoms]))
    cases Option.some.inj (q1.symm.trans hfound)
    cases Option.some.inj (q2.symm.trans (State.methodFound?_of_named Y.fill0 (by decide)))
    cases Option.some.inj (q3.symm.trans Y.fill0)
    rw [Launch.admits_selectMethod X.admits]; exact q4
  have hselF : selectMethod e.platform s.vm P1.m.cls T.fill = .method T.fill := by
    obtain ⟨c2, r2, m2, q1, q2, q3, q4, -⟩ := Cond.selects_spec (a' (.selects cls Bundle.tFill Bundle.tFill) (by simp [Bundle.ownAtoms]))
    cases Option.some.inj (q1.symm.trans hfound)
    cases Option.some.inj (q2.symm.trans (State.methodFound?_of_named Y.fill (by decide)))
    cases Option.some.inj (q3.symm.trans Y.fill)
    rw [Launch.admits_selectMethod X.admits]; exact q4
  obtain ⟨cellS0, hcS0, hiss⟩ := Y.statics
  obtain ⟨u0, hu0⟩ := Cond.staticRefV Y.unassigned L.unassignedStatic L.statics hcS0 hiss (a' (.isRef (.static Bundle.tN "UNASSIGNED_STACK" Bundle.steD)) (by simp [Bundle.ownAtoms]))
  obtain ⟨sen, hsen⟩ := Cond.staticRefV Y.sentinel L.sentinelStatic L.statics hcS0 hiss (a' (.isRef (.static Bundle.tN "SUPPRESSED_SENTINEL" Bundle.listD)) (by simp [Bundle.ownAtoms]))
  obtain ⟨ci198, i198, fB, hk198, hg198, ha198, hsB, -, hnB, htB, hffB⟩ := Cond.ownField (t := .object "java/lang/Object") Y.found L.cls (by decide +kernel) (a' (.fieldLink Bundle.tN 198 Bundle.tN "backtrace" "Ljava/lang/Object;") (by simp [Bundle.ownAtoms])) (a' (.lays Bundle.tN Bundle.tN "backtrace" "Ljava/lang/Object;") (by simp [Bundle.ownAtoms])) e.platform hpl
  obtain ⟨cellS, hcS', heS, -, hkeep⟩ := X.same.2.2.2.2.2 T.aS cellS0 hcS0
  have hcellS : W.heap[T.aS]? = some cellS := hcS'
  have hout' : ∀ i, (⟨T.aS, i⟩ : Loc) ∉ locs := fun i hmem => by
    have := hlocs _ hmem cellS0 hcS0
    rw [hiss] at this; cases this
  have hknownS : cellS.vm ≠ .unknown := by
    rw [heS]; intro hu
    rw [show cellS0.vm = .unknown from hu] at hiss
    cases hiss
  have hneS : T.aS ≠ a := Nat.ne_of_lt (Nat.lt_of_lt_of_le (Array.getElem?_eq_some_iff.mp hcS0).1 hnew)
  obtain ⟨iM, hffM⟩ := Y.msg
  obtain ⟨tyC, dC, hdC, hdnC⟩ := Cond.laysAt hfound hk Y.cause (a' (.lays cls Bundle.tN "cause" "Ljava/lang/Throwable;") (by simp [Bundle.ownAtoms]))
  obtain ⟨tyS, dS, hdS, hdnS⟩ := Cond.laysAt hfound hk Y.stack (a' (.lays cls Bundle.tN "stackTrace" Bundle.steD) (by simp [Bundle.ownAtoms]))
  obtain ⟨tyP, dP, hdP, hdnP⟩ := Cond.laysAt hfound hk Y.supp (a' (.lays cls Bundle.tN "suppressedExceptions" Bundle.listD) (by simp [Bundle.ownAtoms]))
  obtain ⟨tyM, dM, hdM, hdnM⟩ := Cond.laysAt hfound hk hffM (a' (.lays cls Bundle.tN "detailMessage" "Ljava/lang/String;") (by simp [Bundle.ownAtoms]))
  obtain ⟨tyB, dB, hdB, hdnB⟩ := Cond.laysAt hfound hk hffB (a' (.lays cls Bundle.tN "backtrace" "Ljava/lang/Object;") (by simp [Bundle.ownAtoms]))
  have bC := Cond.laysApart hdB hdC hdnB hdnC (by rw [hnB, Y.causeName]; decide)
  have bS := Cond.laysApart hdB hdS hdnB hdnS (by rw [hnB, Y.stackName]; decide)
  have bP := Cond.laysApart hdB hdP hdnB hdnP (by rw [hnB, Y.suppName]; decide)
  have hskip : SkipFacts T e.platform s (fun u => u) u0 ((preparedCellV T.toThrowableT (freshCell P1.m.cls kX) a u0 sen).withEntry W.cur) :=
    ⟨{ ci198 := ci198, i198 := i198, fBack := fB }, ⟨hk198, hg198, ha198, hsB⟩, by
      have := fresh_default (c := P1.m.cls) tyB
      rw [htB] at this
      simpa [preparedCellV, Cell.setSlot, Cell.withEntry, Array.getElem?_setIfInBounds, bC, bS, bP, bC.symm, bS.symm, bP.symm, defaultValue] using this, fun _ _ => rfl⟩
  obtain ⟨tm, methC, cdC, kC, vm₁, hnC, -, -, -, -, -, -, -, hW₁, st1⟩ := Steps.initColdS (tb := p.tables) (e := e) (below := below) (s := s) (U := W) X.here hexec X.warmed hpl hown (t := Bundle.initS cls) rfl rfl (Bundle.fit_spec hcls).2
    (a' (.methodLink own ic (Bundle.initS cls)) (by simp [Bundle.ownAtoms])) (h (.instanceMethod (Bundle.initS cls)) (by cases names <;> simp [Bundle.ownAtoms, Bundle.chainSAtoms, Bundle.passSAtoms])) (bytes := Bundle.six) (maxL := 2) (h (.code (Bundle.initS cls) Bundle.six 2 none) (by cases names <;> simp [Bundle.ownAtoms, Bundle.chainSAtoms, Bundle.passSAtoms]))
    (f := g) hg (a := a) (msg := msg) (rest := .ref a :: rest) hstack hd6
  cases Option.some.inj (hnC.symm.trans hP1m)
  have X₁ := X.noted hW₁
  obtain ⟨vm₂, X₂, st2⟩ := X₁.ctorMessageOffV hexec (g := { g with stack := .ref a :: rest }) hg hsize T L Z LZ M LM (P1 :: Ps)
    (fun P hP => by rcases List.mem_cons.mp hP with rfl | hP; exact L1; exact hL P hP) ⟨hlink1, hlink⟩ (u0 := u0) (sen := sen) (self := a) hmsg (cell := freshCell P1.m.cls kX) (cellS := cellS)
    hcell (fun _ => by simp) (by simp) rfl rfl hsel0 hselF hcellS hneS hknownS (by rw [hkeep _ (hout' _)]; exact hu0) (by rw [hkeep _ (hout' _)]; exact hsen)
    (Takes.of_laid hk hord tyC (by rw [Y.causeType]; rfl)) (Takes.of_laid hk hord tyS (by rw [Y.stackType]; exact fits_refV_array _ u0)) (Takes.of_laid hk hord tyP (by rw [Y.suppType]; exact fits_refV_object _ sen))
    (Takes.of_laid hk hord tyM (by rw [Y.msgType]; exact fits_refV_object _ ⟨msg, hmsg⟩)) Y.objLocals hskip htr [] hd6
    (by simp only [List.length_cons, hlen]; omega) (by simp only [List.length_cons, hlen]; exact hRlocals)
  have hlt : a < ((W.setVm vm₁).setVm vm₂).heap.size := (Array.getElem?_eq_some_iff.mp hcell).1
  refine ⟨(W.setVm vm₁).setVm vm₂, _, _, X₂, fun y hy => ?_, hlt, rfl, rfl, fun target hwalk => st1 _ (fun acts => ?_)⟩
  · simp only [List.mem_cons, List.not_mem_nil, or_false] at hy
    rcases hy with rfl | rfl | rfl | rfl | rfl <;> rfl
  · rw [doInvoke_state]
    exact st2 _ hwalk
set_option maxHeartbeats 1000000 in
theorem vx_ctorMade0 (X : Stand p l e R s m₀ args below meth c W locs cells slots) (hexec : p.tables.exec = Jvm.exec) (htr : e.platform.stackTraces = false) {own cls : String} {names : List String} {ic : Nat}
    (hown : s.vm.findClass own = some m₀.cls) (hcls : Bundle.fit cls = true) (hnames : ∀ n ∈ names, Bundle.fit n = true)
    (h : ∀ a ∈ Bundle.ownAtoms0 own ic cls names, a.before args s = true)
    (hlocs : ∀ x ∈ locs, ∀ cell, s.heap[x.base]? = some cell → cell.vm.isStatics = false)
    {a : Addr} {cX : ClassId} {kX : Class} (hfoundX : s.vm.findClass cls = some cX) (hkX : s.vm.classes[cX]? = some kX) (hcell : W.heap[a]? = some (freshCell cX kX)) (hnew : s.heap.size ≤ a)
    {g : JFrame} (hg : g.method = m₀) (hsize : g.locals.size = c.maxLocals) {rest : List Value} (hstack : g.stack = .ref a :: .ref a :: rest)
    (hd6 : decode c.code g.pc = .ok (.invokespecial ic, 3))
    (hRframes : names.length + 3 < R.frames) (hRlocals : 2 * g.monitorRoom + ((Value.ref a :: rest).map fun v => v.category).sum + (13 * (names.length + 1) + 41) ≤ R.locals) :
    ∃ (V : State) (ce : Cell) (L : List Loc), Stand p l e R s m₀ args below meth c (V.setCell a ce) (locs ++ L) cells slots ∧ (∀ y ∈ L, y.base = a) ∧ a < V.heap.size ∧ ce.cls = cX ∧ ce.vm = .none ∧
      ∀ target, Steps p.tables e below ((V.setCell a ce).setTop { g with stack := .ref a :: rest, pc := g.pc + 3 }) target → Steps p.tables e below (W.setTop g) target := by
  have howns : e.platform.frameOwnsMonitors = true := by rw [X.admits.platform]
  have hfin : e.platform.finalization = false := by rw [X.admits.platform]
  have hpl : e.platform.magicAccessors = ({} : Platform).magicAccessors := by rw [X.admits.platform]
  have a' : ∀ x, x ∈ Bundle.ownAtoms0 own ic cls names → x.holds args s none s [] = true := fun x hx => h x hx
  obtain ⟨T, Z, L, LZ, Y⟩ := ThrowableC.of_atoms (args := args) howns hfin hpl (fun x hx => h x (by simp [Bundle.ownAtoms0, hx]))
  obtain ⟨P1, Ps, hlen, L1, hL, hP1m, hlink1, hlink⟩ := Bundle.chain0 (args := args) hpl Y.init0 names cls hcls hnames (fun x hx => h x (by simp [Bundle.ownAtoms0, hx]))
  have hfound : s.vm.findClass cls = some P1.m.cls := findClass_of_methodNamed hP1m
  cases Option.some.inj (hfoundX.symm.trans hfound)
  obtain ⟨c1, kX', hc1, hk, hord, -, -, hn6⟩ := Cond.instantiable_spec (a' (.instantiable cls 6) (by simp [Bundle.ownAtoms0]))
  cases Option.some.inj (hc1.symm.trans hfound)
  cases Option.some.inj (hkX.symm.trans hk)
  have hsel0 : selectMethod e.platform s.vm P1.m.cls T.fill0 = .method T.fill0 := by
    obtain ⟨c2, r2, m2, q1, q2, q3, q4, -⟩ := Cond.selects_spec (a' (.selects cls Bundle.tFill0 Bundle.tFill0) (by simp [Bundle.ownAtoms0]))
    cases Option.some.inj (q1.symm.trans hfound)
    cases Option.some.inj (q2.symm.trans (State.methodFound?_of_named Y.fill0 (by decide)))
    cases Option.some.inj (q3.symm.trans Y.fill0)
    rw [Launch.admits_selectMethod X.admits]; exact q4
  have hselF : selectMethod e.platform s.vm P1.m.cls T.fill = .method T.fill := by
    obtain ⟨c2, r2, m2, q1, q2, q3, q4, -⟩ := Cond.selects_spec (a' (.selects cls Bundle.tFill Bundle.tFill) (by simp [Bundle.ownAtoms0]))
    cases Option.some.inj (q1.symm.trans hfound)
    cases Option.some.inj (q2.symm.trans (State.methodFound?_of_named Y.fill (by decide)))
    cases Option.some.inj (q3.symm.trans Y.fill)
    rw [Launch.admits_selectMethod X.admits]; exact q4
  obtain ⟨cellS0, hcS0, hiss⟩ := Y.statics
  obtain ⟨u0, hu0⟩ := Cond.staticRefV Y.unassigned L.unassignedStatic L.statics hcS0 hiss (a' (.isRef (.static Bundle.tN "UNASSIGNED_STACK" Bundle.steD)) (by simp [Bundle.ownAtoms0]))
  obtain ⟨sen, hsen⟩ := Cond.staticRefV Y.sentinel L.sentinelStatic L.statics hcS0 hiss (a' (.isRef (.static Bundle.tN "SUPPRESSED_SENTINEL" Bundle.listD)) (by simp [Bundle.ownAtoms0]))
  obtain ⟨ci198, i198, fB, hk198, hg198, ha198, hsB, -, hnB, htB, hffB⟩ := Cond.ownField (t := .object "java/lang/Object") Y.found L.cls (by decide +kernel) (a' (.fieldLink Bundle.tN 198 Bundle.tN "backtrace" "Ljava/lang/Object;") (by simp [Bundle.ownAtoms0])) (a' (.lays Bundle.tN Bundle.tN "backtrace" "Ljava/lang/Object;") (by simp [Bundle.ownAtoms0])) e.platform hpl
  obtain ⟨cellS, hcS', heS, -, hkeep⟩ := X.same.2.2.2.2.2 T.aS cellS0 hcS0
  have hcellS : W.heap[T.aS]? = some cellS := hcS'
  have hout' : ∀ i, (⟨T.aS, i⟩ : Loc) ∉ locs := fun i hmem => by
    have := hlocs _ hmem cellS0 hcS0
    rw [hiss] at this; cases this
  have hknownS : cellS.vm ≠ .unknown := by
    rw [heS]; intro hu
    rw [show cellS0.vm = .unknown from hu] at hiss
    cases hiss
  have hneS : T.aS ≠ a := Nat.ne_of_lt (Nat.lt_of_lt_of_le (Array.getElem?_eq_some_iff.mp hcS0).1 hnew)
  obtain ⟨iM, hffM⟩ := Y.msg
  obtain ⟨tyC, dC, hdC, hdnC⟩ := Cond.laysAt hfound hk Y.cause (a' (.lays cls Bundle.tN "cause" "Ljava/lang/Throwable;") (by simp [Bundle.ownAtoms0]))
  obtain ⟨tyS, dS, hdS, hdnS⟩ := Cond.laysAt hfound hk Y.stack (a' (.lays cls Bundle.tN "stackTrace" Bundle.steD) (by simp [Bundle.ownAtoms0]))
  obtain ⟨tyP, dP, hdP, hdnP⟩ := Cond.laysAt hfound hk Y.supp (a' (.lays cls Bundle.tN "suppressedExceptions" Bundle.listD) (by simp [Bundle.ownAtoms0]))
  obtain ⟨tyM, dM, hdM, hdnM⟩ := Cond.laysAt hfound hk hffM (a' (.lays cls Bundle.tN "detailMessage" "Ljava/lang/String;") (by simp [Bundle.ownAtoms0]))
  obtain ⟨tyB, dB, hdB, hdnB⟩ := Cond.laysAt hfound hk hffB (a' (.lays cls Bundle.tN "backtrace" "Ljava/lang/Object;") (by simp [Bundle.ownAtoms0]))
  have bC := Cond.laysApart hdB hdC hdnB hdnC (by rw [hnB, Y.causeName]; decide)
  have bS := Cond.laysApart hdB hdS hdnB hdnS (by rw [hnB, Y.stackName]; decide)
  have bP := Cond.laysApart hdB hdP hdnB hdnP (by rw [hnB, Y.suppName]; decide)
  have hskip : SkipFacts T e.platform s (fun u => u) u0 ((preparedCellV T.toThrowableT (freshCell P1.m.cls kX) a u0 sen).withEntry W.cur) :=
    ⟨{ ci198 := ci198, i198 := i198, fBack := fB }, ⟨hk198, hg198, ha198, hsB⟩, by
      have := fresh_default (c := P1.m.cls) tyB
      rw [htB] at this
      simpa [preparedCellV, Cell.setSlot, Cell.withEntry, Array.getElem?_setIfInBounds, bC, bS, bP, bC.symm, bS.symm, bP.symm, defaultValue] using this, fun _ _ => rfl⟩
  obtain ⟨tm, methC, cdC, kC, vm₁, hnC, -, -, -, -, -, -, -, hW₁, st1⟩ := Steps.initCold (tb := p.tables) (e := e) (below := below) (s := s) (U := W) X.here hexec X.warmed hpl hown (t := Bundle.init0 cls) rfl rfl (Bundle.fit_spec hcls).2
    (a' (.methodLink own ic (Bundle.init0 cls)) (by simp [Bundle.ownAtoms0])) (h (.instanceMethod (Bundle.init0 cls)) (by cases names <;> simp [Bundle.ownAtoms0, Bundle.chain0Atoms, Bundle.passAtoms])) (bytes := Bundle.five) (maxL := 1) (h (.code (Bundle.init0 cls) Bundle.five 1 none) (by cases names <;> simp [Bundle.ownAtoms0, Bundle.chain0Atoms, Bundle.passAtoms]))
    (f := g) hg (a := a) (rest := .ref a :: rest) hstack hd6
  cases Option.some.inj (hnC.symm.trans hP1m)
  have X₁ := X.noted hW₁
  obtain ⟨vm₂, X₂, st2⟩ := X₁.ctorPlainOffV hexec (g := { g with stack := .ref a :: rest }) hg hsize T L Z LZ (P1 :: Ps)
    (fun P hP => by rcases List.mem_cons.mp hP with rfl | hP; exact L1; exact hL P hP) ⟨hlink1, hlink⟩ (u0 := u0) (sen := sen) (self := a) (cell := freshCell P1.m.cls kX) (cellS := cellS)
    hcell (fun _ => by simp) (by simp) rfl rfl hsel0 hselF hcellS hneS hknownS (by rw [hkeep _ (hout' _)]; exact hu0) (by rw [hkeep _ (hout' _)]; exact hsen)
    (Takes.of_laid hk hord tyC (by rw [Y.causeType]; rfl)) (Takes.of_laid hk hord tyS (by rw [Y.stackType]; exact fits_refV_array _ u0)) (Takes.of_laid hk hord tyP (by rw [Y.suppType]; exact fits_refV_object _ sen)) Y.objLocals hskip htr [] hd6
    (by simp only [List.length_cons, hlen]; omega) (by simp only [List.length_cons, hlen]; exact hRlocals)
  have hlt : a < ((W.setVm vm₁).setVm vm₂).heap.size := (Array.getElem?_eq_some_iff.mp hcell).1
  refine ⟨(W.setVm vm₁).setVm vm₂, _, _, X₂, fun y hy => ?_, hlt, rfl, rfl, fun target hwalk => st1 _ (fun acts => ?_)⟩
  · simp only [List.mem_cons, List.not_mem_nil, or_false] at hy
    rcases hy with rfl | rfl | rfl | rfl <;> rfl
  · rw [doInvoke_state]
    exact st2 _ hwalk
end VXK
section VXK2
variable {p : Program} {l : Launch} {e : Env} {R : Room} {s : State} {m : MethodId} {args : Array Value} {below : List Frame} {meth : Method} {c : Code} {H : Heap} {locs : List Loc} {cells slots : Nat} {Q : State → Prop}
variable {ls : Array Slot} {rest : List Value} {D : va_G} {cl : List vw_C} {tys : List (ClassId × FieldType)} {ws : va_W}
/-- 'new E("text")' that isn't thrown at once: the object goes on the stack -/
theorem vx_makeS {cc : ByteArray} {pc : Nat} (hexec : p.tables.exec = Jvm.exec) (hb : c.code = cc) (hl : l.stackTraces = false) {own cls text : String} {names : List String} {ik is ic sa ci : Nat} {A : Nat → Prop} {T0 : u_T}
    (hown : s.vm.findClass own = some m.cls) (hcls : Bundle.fit cls = true) (hnames : ∀ n ∈ names, Bundle.fit n = true)
    (hk : (Cond.classLink own ik cls).before args s = true) (hini : (Cond.initialized cls).before args s = true) (hstr : vk_R own is text sa s) (hat : ∀ w ∈ vx_atS own ic cls names, w.before args s = true)
    (hgood : ∀ w ∈ Cond.classLink own ik cls :: Cond.initialized cls :: vx_atS own ic cls names, vx_ot w = true)
    (hU : vx_Zq Bundle.tN "UNASSIGNED_STACK" Bundle.steD A s s.heap) (hN : vx_Zq Bundle.tN "SUPPRESSED_SENTINEL" Bundle.listD A s s.heap) (hS : va_S A s.heap H locs) (hsize : ls.size = c.maxLocals)
    (d0 : decode cc pc = .ok (.new ik, 3)) (d3 : decode cc (pc + 3) = .ok (.dup, 1)) (d4 : decode cc (pc + 4) = .ok (.ldc is, 2)) (d6 : decode cc (pc + 6) = .ok (.invokespecial ic, 3))
    (hK : va_K D cl tys s) (hP : va_P D cl ws H) (hD : va_D A ws) (hA : ∀ q, s.heap.size ≤ q → A q) (hc : cl[ci]? = some (cls, T0, 0))
    (hRframes : names.length + 3 < R.frames) (hRlocals : (rest.map fun v => v.category).sum + (13 * (names.length + 1) + 43) ≤ R.locals) (hRcells : cells + 1 ≤ R.cells) (hRslots : slots + 6 ≤ R.slots)
    (kk : ∀ (q : Nat) (H1 : Heap), va_P D cl (ws ++ [(q, .inr (ci, []))]) H1 → va_D A (ws ++ [(q, .inr (ci, []))]) → va_S A s.heap H1 locs → W p l e R s m args below meth c H1 locs (cells + 1) (slots + 6) Q (F0 m (pc + 9) ls (.ref q :: rest))) :
    W p l e R s m args below meth c H locs cells slots Q (F0 m pc ls rest) := by
  intro T hT X
  subst hT
  have htr : e.platform.stackTraces = false := (show e.platform.stackTraces = l.stackTraces by rw [X.admits.platform]).trans hl
  have Y := vx_rebase X (R' := { frames := R.frames, locals := R.locals, cells := 1, slots := 6 }) (Nat.le_refl _) (Nat.le_refl _) hRcells hRslots
  obtain ⟨s', hA'⟩ : ∃ z, z = (T.setVm s.vm).setFrames (.invoking m args :: below) := ⟨_, rfl⟩
  rw [← hA'] at Y
  have hvm : s'.vm = s.vm := by rw [hA']; rfl
  have hhp : s'.heap = T.heap := by rw [hA']; rfl
  have hW0 : s.WarmedH s'.vm := by rw [hvm]; exact State.WarmedH.refl s
  have hat' : ∀ w ∈ vx_atS own ic cls names, w.before args s' = true := fun w hw => vx_ot_at hW0 hvm.symm (hgood w (List.mem_cons_of_mem _ (List.mem_cons_of_mem _ hw))) (hat w hw)
  have hk' : (Cond.classLink own ik cls).before args s' = true := vx_ot_at hW0 hvm.symm (hgood _ List.mem_cons_self) hk
  have hini' : (Cond.initialized cls).before args s' = true := vx_ot_at hW0 hvm.symm (hgood _ (List.mem_cons_of_mem _ List.mem_cons_self)) hini
  have hU' : vx_Zq Bundle.tN "UNASSIGNED_STACK" Bundle.steD A s' s'.heap := by rw [hhp]; exact vx_Zq.moved hW0.alike (hU.kept hS.2.1)
  have hN' : vx_Zq Bundle.tN "SUPPRESSED_SENTINEL" Bundle.listD A s' s'.heap := by rw [hhp]; exact vx_Zq.moved hW0.alike (hN.kept hS.2.1)
  have h : ∀ w ∈ Bundle.ownAtoms own ic cls names, w.before args s' = true := vx_own hat' (vx_isRefq hU'.1) (vx_isRefq hN'.1) hU'.2.word hN'.2.word
  have hown' : s'.vm.findClass own = some m.cls := by rw [hvm]; exact hown
  have hins : (Cond.instantiable cls 6).before args s' = true := h _ (by simp [Bundle.ownAtoms])
  obtain ⟨vm₁, cX, kX, hfX, hkX, -, -, X₁, st1⟩ := Y.newCold hexec (own := own) (C := cls) (index := ik) (n := 6) hown' hk' hins hini'
    (g := F0 m pc ls rest) rfl (by rw [hb]; exact d0) (Nat.le_refl _) (Nat.le_refl _)
  generalize hT1 : (T.setVm vm₁).pushCell { cls := cX, slots := kX.instanceTypes.map defaultValue, vm := .none } = T1 at X₁ st1
  have hcat : (Value.ref T.heap.size).category = 1 := rfl
  have hcellA : T1.heap[T.heap.size]? = some (freshCell cX kX) := by rw [← hT1]; exact State.heap_pushCell_size _ _
  have d3' : decode c.code (pc + 3) = .ok (.dup, 1) := by rw [hb]; exact d3
  have d4' : decode c.code (pc + 4) = .ok (.ldc is, 2) := by rw [hb]; exact d4
  have hstr' : vk_R own is text sa s' := vk_R.warm hW0 hstr
  obtain ⟨V, ce, L, Z, hL, hlt, hcl9, hvm9, st⟩ := vx_ctorMadeS X₁ hexec htr (own := own) (cls := cls) (names := names) (ic := ic) hown' hcls hnames h (fun x hx => nomatch hx) hfX hkX hcellA (by rw [hhp]; exact Nat.le_refl _) (msg := .ref sa) rfl
    (g := { method := m, pc := pc + 6, locals := ls, stack := .ref sa :: .ref T.heap.size :: .ref T.heap.size :: rest, locked := none }) rfl hsize (rest := rest) rfl
    (by rw [hb]; exact d6) hRframes (by simp only [List.map_cons, List.sum_cons, hcat]; omega)
  have Z0 := Stand.forget (locs := []) Z (fun y hy => by rw [hL y hy, hhp]; exact Nat.le_refl _)
  obtain ⟨f1, f2⟩ := vx_frame Z0.same
  rw [hhp] at f1 f2
  have hcid : ce.cls = D.1 ci := by
    rw [hcl9]
    have h1 := (hK.1 ci _ hc).2.1
    rw [hvm] at hfX
    exact Option.some.inj (hfX.symm.trans h1)
  have hh : (V.setCell T.heap.size ce).heap[T.heap.size]? = some ce := heapAt_setCell_self (s := V) ce hlt
  subst hA'
  have X5 := vx_back9 X Y Z0
  have X6 : Stand p l e R s m args below meth c (V.setCell T.heap.size ce) locs (cells + 1) (slots + 6) := { X5 with same := X5.same.mono (by omega) (by omega) }
  have hk9 : ∀ (k : Nat) (x : Nat × va_E), ws[k]? = some x → (V.setCell T.heap.size ce).heap[x.1]? = T.heap[x.1]? := fun k x hx => f2 x.1 ((hP k x hx).lt) (fun z hz => nomatch hz)
  obtain ⟨t, a1, b1⟩ := kk T.heap.size (V.setCell T.heap.size ce).heap ((hP.kept hk9).app (fun k x hx => by
      have hz : k < 1 := (List.getElem?_eq_some_iff.mp hx).1
      rw [show k = 0 by omega] at hx
      cases hx
      exact ⟨_, hc, ce, hh, hcid, hvm9, fun k hk => absurd hk (Nat.not_lt_zero k)⟩)) (hD.push hP rfl (hA _ hS.1)) ⟨Nat.le_trans hS.1 f1, fun q h1 h2 => (f2 q (Nat.lt_of_lt_of_le h1 hS.1) (fun z hz => nomatch hz)).trans (hS.2.1 q h1 h2), hS.2.2⟩ _ rfl X6
  refine ⟨t, st1 _ ?_, b1⟩
  show Steps p.tables e below (T1.setTop { method := m, pc := pc + 3, locals := ls, stack := .ref T.heap.size :: rest, locked := none }) _
  jvm_step X₁.here [X₁.here.top, hexec, d3', Value.category]
  exact X₁.ldcString hexec (own := own) (text := text) (index := is) (a := sa) hown' hstr'.1 hstr'.2
    (g := { method := m, pc := pc + 4, locals := ls, stack := .ref T.heap.size :: .ref T.heap.size :: rest, locked := none }) rfl d4' _ (st _ a1)
/-- 'new E()' that isn't thrown at once: the object goes on the stack -/
theorem vx_make0 {cc : ByteArray} {pc : Nat} (hexec : p.tables.exec = Jvm.exec) (hb : c.code = cc) (hl : l.stackTraces = false) {own cls : String} {names : List String} {ik ic ci : Nat} {A : Nat → Prop} {T0 : u_T}
    (hown : s.vm.findClass own = some m.cls) (hcls : Bundle.fit cls = true) (hnames : ∀ n ∈ names, Bundle.fit n = true)
    (hk : (Cond.classLink own ik cls).before args s = true) (hini : (Cond.initialized cls).before args s = true) (hat : ∀ w ∈ vx_at0 own ic cls names, w.before args s = true)
    (hgood : ∀ w ∈ Cond.classLink own ik cls :: Cond.initialized cls :: vx_at0 own ic cls names, vx_ot w = true)
    (hU : vx_Zq Bundle.tN "UNASSIGNED_STACK" Bundle.steD A s s.heap) (hN : vx_Zq Bundle.tN "SUPPRESSED_SENTINEL" Bundle.listD A s s.heap) (hS : va_S A s.heap H locs) (hsize : ls.size = c.maxLocals)
    (d0 : decode cc pc = .ok (.new ik, 3)) (d3 : decode cc (pc + 3) = .ok (.dup, 1)) (d4 : decode cc (pc + 4) = .ok (.invokespecial ic, 3))
    (hK : va_K D cl tys s) (hP : va_P D cl ws H) (hD : va_D A ws) (hA : ∀ q, s.heap.size ≤ q → A q) (hc : cl[ci]? = some (cls, T0, 0))
    (hRframes : names.length + 3 < R.frames) (hRlocals : (rest.map fun v => v.category).sum + (13 * (names.length + 1) + 42) ≤ R.locals) (hRcells : cells + 1 ≤ R.cells) (hRslots : slots + 6 ≤ R.slots)
    (kk : ∀ (q : Nat) (H1 : Heap), va_P D cl (ws ++ [(q, .inr (ci, []))]) H1 → va_D A (ws ++ [(q, .inr (ci, []))]) → va_S A s.heap H1 locs → W p l e R s m args below meth c H1 locs (cells + 1) (slots + 6) Q (F0 m (pc + 7) ls (.ref q :: rest))) :
    W p l e R s m args below meth c H locs cells slots Q (F0 m pc ls rest) := by
  intro T hT X
  subst hT
  have htr : e.platform.stackTraces = false := (show e.platform.stackTraces = l.stackTraces by rw [X.admits.platform]).trans hl
  have Y := vx_rebase X (R' := { frames := R.frames, locals := R.locals, cells := 1, slots := 6 }) (Nat.le_refl _) (Nat.le_refl _) hRcells hRslots
  obtain ⟨s', hA'⟩ : ∃ z, z = (T.setVm s.vm).setFrames (.invoking m args :: below) := ⟨_, rfl⟩
  rw [← hA'] at Y
  have hvm : s'.vm = s.vm := by rw [hA']; rfl
  have hhp : s'.heap = T.heap := by rw [hA']; rfl
  have hW0 : s.WarmedH s'.vm := by rw [hvm]; exact State.WarmedH.refl s
  have hat' : ∀ w ∈ vx_at0 own ic cls names, w.before args s' = true := fun w hw => vx_ot_at hW0 hvm.symm (hgood w (List.mem_cons_of_mem _ (List.mem_cons_of_mem _ hw))) (hat w hw)
  have hk' : (Cond.classLink own ik cls).before args s' = true := vx_ot_at hW0 hvm.symm (hgood _ List.mem_cons_self) hk
  have hini' : (Cond.initialized cls).before args s' = true := vx_ot_at hW0 hvm.symm (hgood _ (List.mem_cons_of_mem _ List.mem_cons_self)) hini
  have hU' : vx_Zq Bundle.tN "UNASSIGNED_STACK" Bundle.steD A s' s'.heap := by rw [hhp]; exact vx_Zq.moved hW0.alike (hU.kept hS.2.1)
  have hN' : vx_Zq Bundle.tN "SUPPRESSED_SENTINEL" Bundle.listD A s' s'.heap := by rw [hhp]; exact vx_Zq.moved hW0.alike (hN.kept hS.2.1)
  have h : ∀ w ∈ Bundle.ownAtoms0 own ic cls names, w.before args s' = true := vx_own hat' (vx_isRefq hU'.1) (vx_isRefq hN'.1) hU'.2.word hN'.2.word
  have hown' : s'.vm.findClass own = some m.cls := by rw [hvm]; exact hown
  have hins : (Cond.instantiable cls 6).before args s' = true := h _ (by simp [Bundle.ownAtoms0])
  obtain ⟨vm₁, cX, kX, hfX, hkX, -, -, X₁, st1⟩ := Y.newCold hexec (own := own) (C := cls) (index := ik) (n := 6) hown' hk' hins hini'
    (g := F0 m pc ls rest) rfl (by rw [hb]; exact d0) (Nat.le_refl _) (Nat.le_refl _)
  generalize hT1 : (T.setVm vm₁).pushCell { cls := cX, slots := kX.instanceTypes.map defaultValue, vm := .none } = T1 at X₁ st1
  have hcat : (Value.ref T.heap.size).category = 1 := rfl
  have hcellA : T1.heap[T.heap.size]? = some (freshCell cX kX) := by rw [← hT1]; exact State.heap_pushCell_size _ _
  have d3' : decode c.code (pc + 3) = .ok (.dup, 1) := by rw [hb]; exact d3
  obtain ⟨V, ce, L, Z, hL, hlt, hcl9, hvm9, st⟩ := vx_ctorMade0 X₁ hexec htr (own := own) (cls := cls) (names := names) (ic := ic) hown' hcls hnames h (fun x hx => nomatch hx) hfX hkX hcellA (by rw [hhp]; exact Nat.le_refl _)
    (g := { method := m, pc := pc + 4, locals := ls, stack := .ref T.heap.size :: .ref T.heap.size :: rest, locked := none }) rfl hsize (rest := rest) rfl
    (by rw [hb]; exact d4) hRframes (by simp only [List.map_cons, List.sum_cons, hcat]; omega)
  have Z0 := Stand.forget (locs := []) Z (fun y hy => by rw [hL y hy, hhp]; exact Nat.le_refl _)
  obtain ⟨f1, f2⟩ := vx_frame Z0.same
  rw [hhp] at f1 f2
  have hcid : ce.cls = D.1 ci := by
    rw [hcl9]
    have h1 := (hK.1 ci _ hc).2.1
    rw [hvm] at hfX
    exact Option.some.inj (hfX.symm.trans h1)
  have hh : (V.setCell T.heap.size ce).heap[T.heap.size]? = some ce := heapAt_setCell_self (s := V) ce hlt
  subst hA'
  have X5 := vx_back9 X Y Z0
  have X6 : Stand p l e R s m args below meth c (V.setCell T.heap.size ce) locs (cells + 1) (slots + 6) := { X5 with same := X5.same.mono (by omega) (by omega) }
  have hk9 : ∀ (k : Nat) (x : Nat × va_E), ws[k]? = some x → (V.setCell T.heap.size ce).heap[x.1]? = T.heap[x.1]? := fun k x hx => f2 x.1 ((hP k x hx).lt) (fun z hz => nomatch hz)
  obtain ⟨t, a1, b1⟩ := kk T.heap.size (V.setCell T.heap.size ce).heap ((hP.kept hk9).app (fun k x hx => by
      have hz : k < 1 := (List.getElem?_eq_some_iff.mp hx).1
      rw [show k = 0 by omega] at hx
      cases hx
      exact ⟨_, hc, ce, hh, hcid, hvm9, fun k hk => absurd hk (Nat.not_lt_zero k)⟩)) (hD.push hP rfl (hA _ hS.1)) ⟨Nat.le_trans hS.1 f1, fun q h1 h2 => (f2 q (Nat.lt_of_lt_of_le h1 hS.1) (fun z hz => nomatch hz)).trans (hS.2.1 q h1 h2), hS.2.2⟩ _ rfl X6
  refine ⟨t, st1 _ ?_, b1⟩
  show Steps p.tables e below (T1.setTop { method := m, pc := pc + 3, locals := ls, stack := .ref T.heap.size :: rest, locked := none }) _
  jvm_step X₁.here [X₁.here.top, hexec, d3', Value.category]
  exact st _ a1
/-- 'throw x' of an object that was made before -/
theorem vx_athrow {cc : ByteArray} {pc : Nat} (hexec : p.tables.exec = Jvm.exec) (hb : c.code = cc) {q : Addr} (hdg : decode cc pc = .ok (.athrow, 1)) (k : vx_W p l e R s m args below meth c H locs cells slots Q (F0 m pc ls rest) q) : W p l e R s m args below meth c H locs cells slots Q (F0 m pc ls (.ref q :: rest)) := by
  intro T hT X
  obtain ⟨t, st, hq⟩ := k T hT X
  refine ⟨t, ?_, hq⟩
  have hdg' : decode c.code pc = .ok (.athrow, 1) := by rw [hb]; exact hdg
  jvm_step X.here [X.here.top, hexec, hdg', athrow.wp_sem]
  exact st
end VXK2
/-! ===== END ===== -/
/-! ===== BEGIN a constructor that throws (launches without stack traces) ===== -/
section VXIA
variable {p : Program} {l : Launch} {e : Env} {R : Room} {s : State} {m : MethodId} {args : Array Value} {below : List Frame} {meth : Method} {c : Code} {T : State} {locs : List Loc} {cells slots : Nat}
theorem vx_callI (X : Stand p l e R s m args below meth c T locs cells slots) (hexec : p.tables.exec = Jvm.exec) {own : String} {index : Nat} {y : MethodName} {bytes : ByteArray} {maxL : Nat}
    (hown : s.vm.findClass own = some m.cls) (hy1 : y.name = "<init>") (hlink : (Cond.methodLink own index y).before args s = true) (hinst : (Cond.instanceMethod y).before args s = true)
    (hcode : (Cond.code y bytes maxL none).before args s = true) (hy : y.cls ≠ "java/lang/invoke/MethodHandle" ∧ y.cls ≠ "java/lang/invoke/VarHandle")
    {W9 : Nat} {Pre : Pt → Array Value → Prop} {Post : Pt → Array Value → Option Value → Pt → Prop} {PostX : Pt → Array Value → Addr → Pt → Prop} (hK : vx_Back l R p e below s args y 3 W9 Pre Post PostX)
    {g : JFrame} (hg : g.method = m) (hsize : g.locals.size = c.maxLocals) {a : Addr} {argsL rest : List Value} (hlen : ∀ sig, parseMethodDescriptor y.desc = some sig → argsL.length = sig.parameters.length)
    (hstack : g.stack = argsL.reverse ++ .ref a :: rest) (hW : 2 * g.monitorRoom + (rest.map fun v => v.category).sum ≤ W9) (hdg : decode c.code g.pc = .ok (.invokespecial index, 3))
    (hpre : ∀ vm₁, s.WarmedH vm₁ → Pre ⟨T.setVm vm₁, locs, cells, slots⟩ (Value.ref a :: argsL).toArray) :
    (∃ (v : Option Value) (vm₁ : Vm) (B : Pt), s.WarmedH vm₁ ∧ Stand p l e R s m args below meth c B.U B.locs B.cells B.slots ∧ Post ⟨T.setVm vm₁, locs, cells, slots⟩ (Value.ref a :: argsL).toArray v B ∧
      ∀ target, Steps p.tables e below (B.U.setTop { g with pc := g.pc + 3, stack := v.toList ++ rest }) target → Steps p.tables e below (T.setTop g) target) ∨
    (∃ (q : Addr) (vm₁ : Vm) (B : Pt), s.WarmedH vm₁ ∧ Stand p l e R s m args below meth c B.U B.locs B.cells B.slots ∧ PostX ⟨T.setVm vm₁, locs, cells, slots⟩ (Value.ref a :: argsL).toArray q B ∧
      Steps p.tables e below (T.setTop g) ((B.U.setTop { g with stack := rest }).pushFrame (.throwing q))) := by
  subst hg
  have hpl : e.platform.magicAccessors = ({} : Platform).magicAccessors := by rw [X.admits.platform]
  obtain ⟨mk, methM, cM, kP, vm₁, hnamed, hmethM, hcodeM, -, hlocalsM, -, hkP, -, hW₁, hstep₁⟩ := Steps.initColdArgs (e := e) X.here hexec X.warmed hpl hown hy1 hy hlink hinst hcode (f := g) rfl hlen hstack hdg
  have X₁ := X.noted hW₁
  rcases hK g.method meth c ⟨T.setVm vm₁, locs, cells, slots⟩ { g with stack := rest } (.invokespecial index) mk (Value.ref a :: argsL).toArray X₁ rfl hsize hdg hW (X₁.named hnamed) (hpre vm₁ X₁.warmed) with ⟨v, B, X', hpost, hsteps⟩ | ⟨q, B, X', hpost, hsteps⟩
  · exact Or.inl ⟨v, vm₁, B, X₁.warmed, X', hpost, fun target h => hstep₁ _ fun acts => by rw [doInvoke_state]; exact hsteps.trans h⟩
  · exact Or.inr ⟨q, vm₁, B, X₁.warmed, X', hpost, hstep₁ _ fun acts => by rw [doInvoke_state]; exact hsteps⟩
end VXIA
section VXIB
variable {p : Program} {l : Launch} {e : Env} {R : Room} {s : State} {m : MethodId} {args : Array Value} {below : List Frame} {meth : Method} {c : Code} {H : Heap} {locs : List Loc} {cells slots : Nat}
variable {y : MethodName} {bytes cc : ByteArray} {maxL nL mc ms n index : Nat} {ret : Option FieldType} {ws : List Cond} {rm : Room} {Pc : Array Value → State → Prop} {Qc : Array Value → State → Outcome → State → Prop} {XC : String → State → State → Prop} {free : Addr → Prop} {Ts : List Cond} {own C : String} {b : Addr} {As rest : List Value} {g : JFrame}
theorem vx_runI (S : CallFix p m c cc nL s args Ts own) (hM : vx_Met l y ws rm Pc Qc XC mc ms free) (cw : CallB R s args own index y bytes maxL none ws rm mc ms n ∧ y.name = "<init>" ∧ (Cond.instanceMethod y).before args s = true) (hp : PreS s H Pc (.ref b :: As))
    (hg : g.method = m) (hn : As.length = n) (hsize : g.locals.size = nL) (hstack : g.stack = As.reverse ++ .ref b :: rest) (hW : 2 * g.monitorRoom + (rest.map fun v => v.category).sum ≤ 8) (hdg : decode cc g.pc = .ok (.invokespecial index, 3)) (hf : cells + mc ≤ R.cells ∧ slots + ms ≤ R.slots) :
    vx_Run p l e R s m args below meth c H locs cells slots mc ms g rest (Qc (Value.ref b :: As).toArray) XC free := by
  have hK : vx_Back l R p e below s args y 3 8 (PreOf R mc ms Pc) (PostOf Qc mc ms free) (vx_Post XC mc ms free) := vx_callBack cw.1 hM hp.1
  obtain ⟨⟨-, -, -, -, -, -, hcode, -, hy, hlen, hl⟩, hy1, hin⟩ := cw
  obtain ⟨hx, hb, hml, ho, -⟩ := S
  have hPc := hp.2
  intro T hT X
  rcases vx_callI X hx (bytes := bytes) (maxL := maxL) ho hy1 hl hin hcode hy hK hg (hsize.trans hml.symm) (a := b) (argsL := As) (rest := rest) (fun sig h => hn.trans (hlen sig h)) hstack hW (by rw [hb]; exact hdg)
    (fun vm₁ hW₁ => ⟨hf.1, hf.2, hPc (T.setVm vm₁) hT hW₁⟩) with ⟨v, vm₁, ⟨U', l2, c2, s2⟩, hW₁, X', ⟨g', mk, t, L, e1, e2, hq, h1, hL, h2, h3⟩, st⟩ | ⟨q, vm₁, ⟨U', l2, c2, s2⟩, hW₁, X', ⟨g', mk, t, L, E, ce, e1, e2, hq, hce, hcv, hcl, h1, hL, h2, h3⟩, st⟩
  · dsimp only [Pt.U, Pt.locs, Pt.cells, Pt.slots] at X' e1 e2 h1 h2 h3 st
    subst h1; subst h2; subst h3
    exact Or.inl ⟨v, (T.setVm vm₁).calling g' mk (Value.ref b :: As).toArray, t, U', L, hT, X', hL, e1, e2, hq, st⟩
  · dsimp only [Pt.U, Pt.locs, Pt.cells, Pt.slots] at X' e1 e2 h1 h2 h3 st hcl
    subst h1; subst h2; subst h3
    exact Or.inr ⟨q, (T.setVm vm₁).calling g' mk (Value.ref b :: As).toArray, t, U', L, E, ce, hT, X', hL, e1, e2, hq, hce, hcv, vx_cls hW₁ hcl, st⟩
end VXIB
/-! ===== END ===== -/
/-! ===== BEGIN a private constructor of a nest mate that throws ===== -/
section VXIC
variable {p : Program} {l : Launch} {e : Env} {R : Room} {s : State} {m : MethodId} {args : Array Value} {below : List Frame} {meth : Method} {c : Code} {T : State} {locs : List Loc} {cells slots : Nat}
theorem vx_callIN (X : Stand p l e R s m args below meth c T locs cells slots) (hexec : p.tables.exec = Jvm.exec) {own : String} {index : Nat} {host : String} {y : MethodName} {bytes : ByteArray} {maxL : Nat}
    (hown : s.vm.findClass own = some m.cls) (hy1 : y.name = "<init>") (hlink : (Cond.methodLinkNest own index y host).before args s = true) (hinst : (Cond.instanceMethod y).before args s = true)
    (hcode : (Cond.code y bytes maxL none).before args s = true) (hy : y.cls ≠ "java/lang/invoke/MethodHandle" ∧ y.cls ≠ "java/lang/invoke/VarHandle")
    {W9 : Nat} {Pre : Pt → Array Value → Prop} {Post : Pt → Array Value → Option Value → Pt → Prop} {PostX : Pt → Array Value → Addr → Pt → Prop} (hK : vx_Back l R p e below s args y 3 W9 Pre Post PostX)
    {g : JFrame} (hg : g.method = m) (hsize : g.locals.size = c.maxLocals) {a : Addr} {argsL rest : List Value} (hlen : ∀ sig, parseMethodDescriptor y.desc = some sig → argsL.length = sig.parameters.length)
    (hstack : g.stack = argsL.reverse ++ .ref a :: rest) (hW : 2 * g.monitorRoom + (rest.map fun v => v.category).sum ≤ W9) (hdg : decode c.code g.pc = .ok (.invokespecial index, 3))
    (hpre : ∀ vm₁, s.WarmedH vm₁ → Pre ⟨T.setVm vm₁, locs, cells, slots⟩ (Value.ref a :: argsL).toArray) :
    (∃ (v : Option Value) (vm₁ : Vm) (B : Pt), s.WarmedH vm₁ ∧ Stand p l e R s m args below meth c B.U B.locs B.cells B.slots ∧ Post ⟨T.setVm vm₁, locs, cells, slots⟩ (Value.ref a :: argsL).toArray v B ∧
      ∀ target, Steps p.tables e below (B.U.setTop { g with pc := g.pc + 3, stack := v.toList ++ rest }) target → Steps p.tables e below (T.setTop g) target) ∨
    (∃ (q : Addr) (vm₁ : Vm) (B : Pt), s.WarmedH vm₁ ∧ Stand p l e R s m args below meth c B.U B.locs B.cells B.slots ∧ PostX ⟨T.setVm vm₁, locs, cells, slots⟩ (Value.ref a :: argsL).toArray q B ∧
      Steps p.tables e below (T.setTop g) ((B.U.setTop { g with stack := rest }).pushFrame (.throwing q))) := by
  subst hg
  have hpl : e.platform.magicAccessors = ({} : Platform).magicAccessors := by rw [X.admits.platform]
  obtain ⟨mk, methM, cM, kP, vm₁, hnamed, hmethM, hcodeM, -, hlocalsM, -, hkP, -, hW₁, hstep₁⟩ := Steps.initColdArgsNest (e := e) X.here hexec X.warmed hpl hown hy1 hy hlink hinst hcode (f := g) rfl hlen hstack hdg
  have X₁ := X.noted hW₁
  rcases hK g.method meth c ⟨T.setVm vm₁, locs, cells, slots⟩ { g with stack := rest } (.invokespecial index) mk (Value.ref a :: argsL).toArray X₁ rfl hsize hdg hW (X₁.named hnamed) (hpre vm₁ X₁.warmed) with ⟨v, B, X', hpost, hsteps⟩ | ⟨q, B, X', hpost, hsteps⟩
  · exact Or.inl ⟨v, vm₁, B, X₁.warmed, X', hpost, fun target h => hstep₁ _ fun acts => by rw [doInvoke_state]; exact hsteps.trans h⟩
  · exact Or.inr ⟨q, vm₁, B, X₁.warmed, X', hpost, hstep₁ _ fun acts => by rw [doInvoke_state]; exact hsteps⟩
end VXIC
section VXID
variable {p : Program} {l : Launch} {e : Env} {R : Room} {s : State} {m : MethodId} {args : Array Value} {below : List Frame} {meth : Method} {c : Code} {H : Heap} {locs : List Loc} {cells slots : Nat}
theorem vx_runIN {y : MethodName} {bytes cc : ByteArray} {maxL nL mc ms n index : Nat} {ws : List Cond} {rm : Room} {Pc : Array Value → State → Prop} {Qc : Array Value → State → Outcome → State → Prop} {XC : String → State → State → Prop} {free : Addr → Prop} {Ts : List Cond} {own host : String} {b : Addr} {As rest : List Value} {g : JFrame}
    (S : CallFix p m c cc nL s args Ts own) (hM : vx_Met l y ws rm Pc Qc XC mc ms free) (cw : va_CN R s args own index y host bytes maxL none ws rm mc ms n ∧ y.name = "<init>" ∧ (Cond.instanceMethod y).before args s = true) (hp : PreS s H Pc (.ref b :: As))
    (hg : g.method = m) (hn : As.length = n) (hsize : g.locals.size = nL) (hstack : g.stack = As.reverse ++ .ref b :: rest) (hW : 2 * g.monitorRoom + (rest.map fun v => v.category).sum ≤ 8) (hdg : decode cc g.pc = .ok (.invokespecial index, 3)) (hf : cells + mc ≤ R.cells ∧ slots + ms ≤ R.slots) :
    vx_Run p l e R s m args below meth c H locs cells slots mc ms g rest (Qc (Value.ref b :: As).toArray) XC free := by
  obtain ⟨⟨⟨hrc, hrs, hfr, hlo, hws, hcw⟩, hcode, hini, hy, hlen, hl⟩, hx1, hx2⟩ := cw
  have hK : vx_Back l R p e below s args y 3 8 (PreOf R mc ms Pc) (PostOf Qc mc ms free) (vx_Post XC mc ms free) := vx_back (bytes := bytes) (maxL := maxL) (ret := none) hM hp.1 hrc hrs hfr hlo hws hcw (fun a' U hW => word_at hW (Or.inl (by first | rfl | simp [Cond.onTables, Cond.keeps, Cond.steady])) hini)
  obtain ⟨hx, hb, hml, ho, -⟩ := S
  have hPc := hp.2
  intro T hT X
  rcases vx_callIN X hx (bytes := bytes) (maxL := maxL) ho hx1 hl hx2 hcode hy hK hg (hsize.trans hml.symm) (a := b) (argsL := As) (rest := rest) (fun sig h => hn.trans (hlen sig h)) hstack hW (by rw [hb]; exact hdg)
    (fun vm₁ hW₁ => ⟨hf.1, hf.2, hPc (T.setVm vm₁) hT hW₁⟩) with ⟨v, vm₁, ⟨U', l2, c2, s2⟩, hW₁, X', ⟨g', mk, t, L, e1, e2, hq, h1, hL, h2, h3⟩, st⟩ | ⟨q, vm₁, ⟨U', l2, c2, s2⟩, hW₁, X', ⟨g', mk, t, L, E, ce, e1, e2, hq, hce, hcv, hcl, h1, hL, h2, h3⟩, st⟩
  · dsimp only [Pt.U, Pt.locs, Pt.cells, Pt.slots] at X' e1 e2 h1 h2 h3 st
    subst h1; subst h2; subst h3
    exact Or.inl ⟨v, (T.setVm vm₁).calling g' mk (Value.ref b :: As).toArray, t, U', L, hT, X', hL, e1, e2, hq, st⟩
  · dsimp only [Pt.U, Pt.locs, Pt.cells, Pt.slots] at X' e1 e2 h1 h2 h3 st hcl
    subst h1; subst h2; subst h3
    exact Or.inr ⟨q, (T.setVm vm₁).calling g' mk (Value.ref b :: As).toArray, t, U', L, E, ce, hT, X', hL, e1, e2, hq, hce, hcv, vx_cls hW₁ hcl, st⟩
end VXID
/-! ===== END ===== -/
/-! ===== BEGIN a method of a class above, found by the receiver, that may throw (follows va_callVU, va_runU of this kit) ===== -/
section
variable {p : Program} {l : Launch} {e : Env} {R : Room} {s : State} {m : MethodId} {args : Array Value} {below : List Frame} {meth : Method} {c : Code} {H : Heap} {locs : List Loc} {cells slots : Nat}
theorem vx_callVU {T : State} {locs : List Loc} {cells slots : Nat} (X : Stand p l e R s m args below meth c T locs cells slots) (hexec : p.tables.exec = Jvm.exec) {own C owner : String} {index : Nat} {x y : MethodName} {bytes : ByteArray} {maxL : Nat} {ret : Option FieldType}
    (hown : s.vm.findClass own = some m.cls) (hlink : (Cond.methodLink own index x).before args s = true) (hsame : (Cond.sameMethod x.cls owner x.name x.desc).before args s = true)
    (hd0 : va_Decl s ⟨owner, x.name, x.desc⟩) (howner : owner ≠ "java/lang/invoke/MethodHandle" ∧ owner ≠ "java/lang/invoke/VarHandle")
    (hsel : (Cond.selects C x y).before args s = true) (hinst : (Cond.instanceMethod y).before args s = true) (hcode : (Cond.code y bytes maxL ret).before args s = true)
    {W : Nat} {Pre : Pt → Array Value → Prop} {Post : Pt → Array Value → Option Value → Pt → Prop} {PostX : Pt → Array Value → Addr → Pt → Prop} (hK : vx_Back l R p e below s args y 3 W Pre Post PostX)
    {b : Addr} {cellB : Cell} (hcell : T.heap[b]? = some cellB) (hobj : cellB.vm.isStatics = false) (hcls : s.vm.findClass C = some cellB.cls)
    {g : JFrame} (hg : g.method = m) (hsize : g.locals.size = c.maxLocals) {argsL rest : List Value} (hlen : ∀ sig, parseMethodDescriptor x.desc = some sig → argsL.length = sig.parameters.length)
    (hstack : g.stack = argsL.reverse ++ .ref b :: rest) (hW : 2 * g.monitorRoom + (rest.map fun v => v.category).sum ≤ W) (hdg : decode c.code g.pc = .ok (.invokevirtual index, 3))
    (hpre : ∀ vm₁, s.WarmedH vm₁ → Pre ⟨T.setVm vm₁, locs, cells, slots⟩ (Value.ref b :: argsL).toArray) :
    (∃ (v : Option Value) (vm₁ : Vm) (B : Pt), s.WarmedH vm₁ ∧ Stand p l e R s m args below meth c B.U B.locs B.cells B.slots ∧ Post ⟨T.setVm vm₁, locs, cells, slots⟩ (Value.ref b :: argsL).toArray v B ∧
      ∀ target, Steps p.tables e below (B.U.setTop { g with pc := g.pc + 3, stack := v.toList ++ rest }) target → Steps p.tables e below (T.setTop g) target) ∨
    (∃ (q : Addr) (vm₁ : Vm) (B : Pt), s.WarmedH vm₁ ∧ Stand p l e R s m args below meth c B.U B.locs B.cells B.slots ∧ PostX ⟨T.setVm vm₁, locs, cells, slots⟩ (Value.ref b :: argsL).toArray q B ∧
      Steps p.tables e below (T.setTop g) ((B.U.setTop { g with stack := rest }).pushFrame (.throwing q))) := by
  obtain ⟨r0, r, hn, hrm, hstR, hsigR⟩ := hd0
  obtain ⟨cn, ck, r1, hcn, hck, hni, hf, hn1⟩ := Cond.sameMethod_found hsame
  cases hn.symm.trans hn1
  obtain ⟨mk, methM, hnamed, hmethM, -, habM⟩ := Cond.instanceMethod_spec hinst
  obtain ⟨c2, r2, m2, q1, q2, q3, q4, kP, hkP, hkPi⟩ := Cond.selects_spec hsel
  cases hcls.symm.trans q1
  cases hf.symm.trans q2
  cases hnamed.symm.trans q3
  have hselP : selectMethod e.platform s.vm cellB.cls r0 = .method mk := by rw [Launch.admits_selectMethod X.admits]; exact q4
  obtain ⟨vm₁, X₁, hstep₁⟩ := X.invokevirtualUp hexec hown hlink hsame howner hn hrm hstR (a := b) (cell := cellB) hcell
    (fun z h => by rw [h] at hobj; cases hobj) hselP hmethM habM hkP hkPi (g := g) hg (argsL := argsL) (rest := rest) (hlen _ hsigR) hstack hdg
  rcases hK m meth c ⟨T.setVm vm₁, locs, cells, slots⟩ { g with stack := rest } (.invokevirtual index) mk (Value.ref b :: argsL).toArray X₁ hg hsize hdg hW (X₁.named hnamed) (hpre vm₁ X₁.warmed) with ⟨v, B, X', hpost, hsteps⟩ | ⟨q, B, X', hpost, hsteps⟩
  · exact Or.inl ⟨v, vm₁, B, X₁.warmed, X', hpost, fun target h => hstep₁ _ fun acts => by rw [doInvoke_state]; exact hsteps.trans h⟩
  · exact Or.inr ⟨q, vm₁, B, X₁.warmed, X', hpost, hstep₁ _ fun acts => by rw [doInvoke_state]; exact hsteps⟩
theorem vx_runU {x y : MethodName} {bytes cc : ByteArray} {maxL nL mc ms n index : Nat} {ret : Option FieldType} {ws : List Cond} {rm : Room} {Pc : Array Value → State → Prop} {Qc : Array Value → State → Outcome → State → Prop} {XC : String → State → State → Prop} {free : Addr → Prop} {Ts : List Cond} {own C owner : String} {b : Addr} {As rest : List Value} {g : JFrame}
    (S : CallFix p m c cc nL s args Ts own) (hM : vx_Met l y ws rm Pc Qc XC mc ms free) (cw : va_CU R s args own C owner index x y bytes maxL ret ws rm mc ms n) (hp : PreV s H C b Pc As)
    (hg : g.method = m) (hn : As.length = n) (hsize : g.locals.size = nL) (hstack : g.stack = As.reverse ++ .ref b :: rest) (hW : 2 * g.monitorRoom + (rest.map fun v => v.category).sum ≤ 8) (hdg : decode cc g.pc = .ok (.invokevirtual index, 3)) (hf : cells + mc ≤ R.cells ∧ slots + ms ≤ R.slots) :
    vx_Run p l e R s m args below meth c H locs cells slots mc ms g rest (Qc (Value.ref b :: As).toArray) XC free := by
  obtain ⟨hrc, hrs, hfr, hlo, hws, hcw⟩ := cw.back
  have hini := cw.init
  have hK : vx_Back l R p e below s args y 3 8 (PreOf R mc ms Pc) (PostOf Qc mc ms free) (vx_Post XC mc ms free) := vx_back (bytes := bytes) (maxL := maxL) (ret := ret) hM hp.1 hrc hrs hfr hlo hws hcw (fun a' U hW => word_at hW (Or.inl (by first | rfl | simp [Cond.onTables, Cond.keeps, Cond.steady])) hini)
  obtain ⟨hx, hb, hml, ho, -⟩ := S
  obtain ⟨-, ⟨cellB, hcB, hoB, hclB⟩, hPc⟩ := hp
  intro T hT X
  rcases vx_callVU X hx (C := C) (owner := owner) (bytes := bytes) (maxL := maxL) (ret := ret) ho cw.link cw.same cw.decl cw.notMH cw.sel cw.inst cw.code hK (by rw [hT]; exact hcB) hoB hclB hg (hsize.trans hml.symm) (argsL := As) (rest := rest) (fun sig h => hn.trans (cw.len sig h)) hstack hW (by rw [hb]; exact hdg)
    (fun vm₁ hW₁ => ⟨hf.1, hf.2, hPc (T.setVm vm₁) hT hW₁⟩) with ⟨v, vm₁, ⟨U', l2, c2, s2⟩, hW₁, X', ⟨g', mk, t, L, e1, e2, hq, h1, hL, h2, h3⟩, st⟩ | ⟨q, vm₁, ⟨U', l2, c2, s2⟩, hW₁, X', ⟨g', mk, t, L, E, ce, e1, e2, hq, hce, hcv, hcl, h1, hL, h2, h3⟩, st⟩
  · dsimp only [Pt.U, Pt.locs, Pt.cells, Pt.slots] at X' e1 e2 h1 h2 h3 st
    subst h1; subst h2; subst h3
    exact Or.inl ⟨v, (T.setVm vm₁).calling g' mk (Value.ref b :: As).toArray, t, U', L, hT, X', hL, e1, e2, hq, st⟩
  · dsimp only [Pt.U, Pt.locs, Pt.cells, Pt.slots] at X' e1 e2 h1 h2 h3 st hcl
    subst h1; subst h2; subst h3
    exact Or.inr ⟨q, (T.setVm vm₁).calling g' mk (Value.ref b :: As).toArray, t, U', L, E, ce, hT, X', hL, e1, e2, hq, hce, hcv, vx_cls hW₁ hcl, st⟩
end
/-! ===== END ===== -/
/-! ===== BEGIN super.m(..) that may throw (follows va_callSU, va_runSU) ===== -/
section
variable {p : Program} {l : Launch} {e : Env} {R : Room} {s : State} {m : MethodId} {args : Array Value} {below : List Frame} {meth : Method} {c : Code} {H : Heap} {locs : List Loc} {cells slots : Nat}
theorem vx_callSU {T : State} {locs : List Loc} {cells slots : Nat} (X : Stand p l e R s m args below meth c T locs cells slots) (hexec : p.tables.exec = Jvm.exec) {own : String} {index : Nat} {y : MethodName} {bytes : ByteArray} {maxL : Nat} {ret : Option FieldType}
    (hown : s.vm.findClass own = some m.cls) (hlink : (Cond.methodLink own index y).before args s = true) (hsame : (Cond.sameMethod y.cls y.cls y.name y.desc).before args s = true) (hsup : (Cond.superclass own y.cls).before args s = true)
    (hinst : (Cond.instanceMethod y).before args s = true) (hcode : (Cond.code y bytes maxL ret).before args s = true) (hno : y.name ≠ "<init>")
    {W : Nat} {Pre : Pt → Array Value → Prop} {Post : Pt → Array Value → Option Value → Pt → Prop} {PostX : Pt → Array Value → Addr → Pt → Prop} (hK : vx_Back l R p e below s args y 3 W Pre Post PostX)
    {b : Addr} {cellB : Cell} {kB : Class} (hcell : T.heap[b]? = some cellB) (hobj : cellB.vm.isStatics = false) (hkB : s.vm.classes[cellB.cls]? = some kB)
    {g : JFrame} (hg : g.method = m) (hsize : g.locals.size = c.maxLocals) {argsL rest : List Value} (hlen : ∀ sig, parseMethodDescriptor y.desc = some sig → argsL.length = sig.parameters.length)
    (hstack : g.stack = argsL.reverse ++ .ref b :: rest) (hW : 2 * g.monitorRoom + (rest.map fun v => v.category).sum ≤ W) (hdg : decode c.code g.pc = .ok (.invokespecial index, 3))
    (hpre : ∀ vm₁, s.WarmedH vm₁ → Pre ⟨T.setVm vm₁, locs, cells, slots⟩ (Value.ref b :: argsL).toArray) :
    (∃ (v : Option Value) (vm₁ : Vm) (B : Pt), s.WarmedH vm₁ ∧ Stand p l e R s m args below meth c B.U B.locs B.cells B.slots ∧ Post ⟨T.setVm vm₁, locs, cells, slots⟩ (Value.ref b :: argsL).toArray v B ∧
      ∀ target, Steps p.tables e below (B.U.setTop { g with pc := g.pc + 3, stack := v.toList ++ rest }) target → Steps p.tables e below (T.setTop g) target) ∨
    (∃ (q : Addr) (vm₁ : Vm) (B : Pt), s.WarmedH vm₁ ∧ Stand p l e R s m args below meth c B.U B.locs B.cells B.slots ∧ PostX ⟨T.setVm vm₁, locs, cells, slots⟩ (Value.ref b :: argsL).toArray q B ∧
      Steps p.tables e below (T.setTop g) ((B.U.setTop { g with stack := rest }).pushFrame (.throwing q))) := by
  obtain ⟨mk, methM, hnamed, hmethM, hstM, habM⟩ := Cond.instanceMethod_spec hinst
  obtain ⟨methM', cM, hmethM', -, -, -, -, -, -, hsigM⟩ := Cond.code_spec hnamed hcode
  cases hmethM.symm.trans hmethM'
  obtain ⟨ps, dk, kp, hps, hdk, hkp, hsuper, -, -, hnid⟩ := Cond.superclass_spec hown hsup
  have hn : s.methodNamed? ⟨y.cls, y.name, y.desc⟩ = some mk := hnamed
  have hpm : ps = mk.cls := Option.some.inj (hps.symm.trans (findClass_of_methodNamed hnamed))
  have hsub : s.vm.isSubclass ps mk.cls = true := by rw [hpm]; simp [Vm.isSubclass, Vm.isSubclassAux]
  obtain ⟨vm₁, X₁, hstep₁⟩ := X.invokespecialUp hexec hown hlink hsame hn hmethM hstM habM hno hdk hnid hps hsuper hsub (a := b) (cell := cellB) hcell
    (fun z h => by rw [h] at hobj; cases hobj) hkB (g := g) hg (argsL := argsL) (rest := rest) (hlen _ hsigM) hstack hdg
  rcases hK m meth c ⟨T.setVm vm₁, locs, cells, slots⟩ { g with stack := rest } (.invokespecial index) mk (Value.ref b :: argsL).toArray X₁ hg hsize hdg hW (X₁.named hnamed) (hpre vm₁ X₁.warmed) with ⟨v, B, X', hpost, hsteps⟩ | ⟨q, B, X', hpost, hsteps⟩
  · exact Or.inl ⟨v, vm₁, B, X₁.warmed, X', hpost, fun target h => hstep₁ _ (by rw [doInvoke_state]; exact hsteps.trans h)⟩
  · exact Or.inr ⟨q, vm₁, B, X₁.warmed, X', hpost, hstep₁ _ (by rw [doInvoke_state]; exact hsteps)⟩
theorem vx_runSU {y : MethodName} {bytes cc : ByteArray} {maxL nL mc ms n index : Nat} {ret : Option FieldType} {ws : List Cond} {rm : Room} {Pc : Array Value → State → Prop} {Qc : Array Value → State → Outcome → State → Prop} {XC : String → State → State → Prop} {free : Addr → Prop} {Ts : List Cond} {own C : String} {cC : ClassId} {b : Addr} {As rest : List Value} {g : JFrame}
    (hat : ClassAt s C cC) (S : CallFix p m c cc nL s args Ts own) (hM : vx_Met l y ws rm Pc Qc XC mc ms free) (cw : va_CS R s args own index y bytes maxL ret ws rm mc ms n) (hp : PreV s H C b Pc As)
    (hg : g.method = m) (hn : As.length = n) (hsize : g.locals.size = nL) (hstack : g.stack = As.reverse ++ .ref b :: rest) (hW : 2 * g.monitorRoom + (rest.map fun v => v.category).sum ≤ 8) (hdg : decode cc g.pc = .ok (.invokespecial index, 3)) (hf : cells + mc ≤ R.cells ∧ slots + ms ≤ R.slots) :
    vx_Run p l e R s m args below meth c H locs cells slots mc ms g rest (Qc (Value.ref b :: As).toArray) XC free := by
  obtain ⟨⟨hrc, hrs, hfr, hlo, hws, hcw⟩, hl1, hl2, hl3, hl4, hini, hcode, hno, hlen⟩ := cw
  have hK : vx_Back l R p e below s args y 3 8 (PreOf R mc ms Pc) (PostOf Qc mc ms free) (vx_Post XC mc ms free) := vx_back (bytes := bytes) (maxL := maxL) (ret := ret) hM hp.1 hrc hrs hfr hlo hws hcw (fun a' U hW => word_at hW (Or.inl (by first | rfl | simp [Cond.onTables, Cond.keeps, Cond.steady])) hini)
  obtain ⟨hx, hb, hml, ho, -⟩ := S
  obtain ⟨-, ⟨cellB, hcB, hoB, hclB⟩, hPc⟩ := hp
  obtain ⟨hfc, kB, hkB, -⟩ := hat
  cases hfc.symm.trans hclB
  intro T hT X
  rcases vx_callSU X hx (bytes := bytes) (maxL := maxL) (ret := ret) ho hl1 hl2 hl3 hl4 hcode hno hK (by rw [hT]; exact hcB) hoB hkB hg (hsize.trans hml.symm) (argsL := As) (rest := rest) (fun sig h => hn.trans (hlen sig h)) hstack hW (by rw [hb]; exact hdg)
    (fun vm₁ hW₁ => ⟨hf.1, hf.2, hPc (T.setVm vm₁) hT hW₁⟩) with ⟨v, vm₁, ⟨U', l2, c2, s2⟩, hW₁, X', ⟨g', mk, t, L, e1, e2, hq, h1, hL, h2, h3⟩, st⟩ | ⟨q, vm₁, ⟨U', l2, c2, s2⟩, hW₁, X', ⟨g', mk, t, L, E, ce, e1, e2, hq, hce, hcv, hcl, h1, hL, h2, h3⟩, st⟩
  · dsimp only [Pt.U, Pt.locs, Pt.cells, Pt.slots] at X' e1 e2 h1 h2 h3 st
    subst h1; subst h2; subst h3
    exact Or.inl ⟨v, (T.setVm vm₁).calling g' mk (Value.ref b :: As).toArray, t, U', L, hT, X', hL, e1, e2, hq, st⟩
  · dsimp only [Pt.U, Pt.locs, Pt.cells, Pt.slots] at X' e1 e2 h1 h2 h3 st hcl
    subst h1; subst h2; subst h3
    exact Or.inr ⟨q, (T.setVm vm₁).calling g' mk (Value.ref b :: As).toArray, t, U', L, E, ce, hT, X', hL, e1, e2, hq, hce, hcv, vx_cls hW₁ hcl, st⟩
end
/-! ===== END ===== -/
/-! ===== BEGIN a private method of a nest mate that may throw (follows va_callVN, va_callSN, va_runVN, va_runSN) ===== -/
section
variable {p : Program} {l : Launch} {e : Env} {R : Room} {s : State} {m : MethodId} {args : Array Value} {below : List Frame} {meth : Method} {c : Code} {H : Heap} {locs : List Loc} {cells slots : Nat}
variable {T : State}
theorem vx_callVN (X : Stand p l e R s m args below meth c T locs cells slots) (hexec : p.tables.exec = Jvm.exec) {own C : String} {index : Nat} {host : String} {y : MethodName} {bytes : ByteArray} {maxL : Nat} {ret : Option FieldType}
    (hown : s.vm.findClass own = some m.cls) (hlink : (Cond.methodLinkNest own index y host).before args s = true) (hinst : (Cond.instanceMethod y).before args s = true) (hsel : (Cond.selects C y y).before args s = true)
    (hcode : (Cond.code y bytes maxL ret).before args s = true) (hy : y.cls ≠ "java/lang/invoke/MethodHandle" ∧ y.cls ≠ "java/lang/invoke/VarHandle")
    {W : Nat} {Pre : Pt → Array Value → Prop} {Post : Pt → Array Value → Option Value → Pt → Prop} {PostX : Pt → Array Value → Addr → Pt → Prop} (hK : vx_Back l R p e below s args y 3 W Pre Post PostX)
    {b : Addr} {cellB : Cell} (hcell : T.heap[b]? = some cellB) (hobj : cellB.vm.isStatics = false) (hcls : s.vm.findClass C = some cellB.cls)
    {g : JFrame} (hg : g.method = m) (hsize : g.locals.size = c.maxLocals) {argsL rest : List Value} (hlen : ∀ sig, parseMethodDescriptor y.desc = some sig → argsL.length = sig.parameters.length)
    (hstack : g.stack = argsL.reverse ++ .ref b :: rest) (hW : 2 * g.monitorRoom + (rest.map fun v => v.category).sum ≤ W) (hdg : decode c.code g.pc = .ok (.invokevirtual index, 3))
    (hpre : ∀ vm₁, s.WarmedH vm₁ → Pre ⟨T.setVm vm₁, locs, cells, slots⟩ (Value.ref b :: argsL).toArray) :
    (∃ (v : Option Value) (vm₁ : Vm) (B : Pt), s.WarmedH vm₁ ∧ Stand p l e R s m args below meth c B.U B.locs B.cells B.slots ∧ Post ⟨T.setVm vm₁, locs, cells, slots⟩ (Value.ref b :: argsL).toArray v B ∧
      ∀ target, Steps p.tables e below (B.U.setTop { g with pc := g.pc + 3, stack := v.toList ++ rest }) target → Steps p.tables e below (T.setTop g) target) ∨
    (∃ (q : Addr) (vm₁ : Vm) (B : Pt), s.WarmedH vm₁ ∧ Stand p l e R s m args below meth c B.U B.locs B.cells B.slots ∧ PostX ⟨T.setVm vm₁, locs, cells, slots⟩ (Value.ref b :: argsL).toArray q B ∧
      Steps p.tables e below (T.setTop g) ((B.U.setTop { g with stack := rest }).pushFrame (.throwing q))) := by
  obtain ⟨mk, methM, hnamed, hmethM, hstM, habM⟩ := Cond.instanceMethod_spec hinst
  obtain ⟨methM', cM, hmethM', -, -, -, -, -, -, hsigM⟩ := Cond.code_spec hnamed hcode
  cases hmethM.symm.trans hmethM'
  obtain ⟨c2, r2, m2, q1, q2, q3, q4, kP, hkP, hkPi⟩ := Cond.selects_spec hsel
  cases hcls.symm.trans q1
  cases (State.methodFound?_of_named hnamed hy).symm.trans q2
  cases hnamed.symm.trans q3
  have hselP : selectMethod e.platform s.vm cellB.cls mk = .method mk := by rw [Launch.admits_selectMethod X.admits]; exact q4
  obtain ⟨vm₁, X₁, hstep₁⟩ := X.invokevirtualNest hexec hown hlink hnamed hmethM hstM hkP hkPi hy (a := b) (cell := cellB) hcell
    (fun z h => by rw [h] at hobj; cases hobj) hselP hmethM habM hkP hkPi (g := g) hg (argsL := argsL) (rest := rest) (hlen _ hsigM) hstack hdg
  rcases hK m meth c ⟨T.setVm vm₁, locs, cells, slots⟩ { g with stack := rest } (.invokevirtual index) mk (Value.ref b :: argsL).toArray X₁ hg hsize hdg hW (X₁.named hnamed) (hpre vm₁ X₁.warmed) with ⟨v, B, X', hpost, hsteps⟩ | ⟨q, B, X', hpost, hsteps⟩
  · exact Or.inl ⟨v, vm₁, B, X₁.warmed, X', hpost, fun target h => hstep₁ _ fun acts => by rw [doInvoke_state]; exact hsteps.trans h⟩
  · exact Or.inr ⟨q, vm₁, B, X₁.warmed, X', hpost, hstep₁ _ fun acts => by rw [doInvoke_state]; exact hsteps⟩
theorem vx_callSN (X : Stand p l e R s m args below meth c T locs cells slots) (hexec : p.tables.exec = Jvm.exec) {own : String} {index : Nat} {host : String} {y : MethodName} {bytes : ByteArray} {maxL : Nat} {ret : Option FieldType}
    (hown : s.vm.findClass own = some m.cls) (hlink : (Cond.methodLinkNest own index y host).before args s = true) (hstat : (Cond.static y).before args s = true) (hinit : (Cond.initialized y.cls).before args s = true)
    (hcode : (Cond.code y bytes maxL ret).before args s = true) (hy : y.cls ≠ "java/lang/invoke/MethodHandle" ∧ y.cls ≠ "java/lang/invoke/VarHandle")
    {W : Nat} {Pre : Pt → Array Value → Prop} {Post : Pt → Array Value → Option Value → Pt → Prop} {PostX : Pt → Array Value → Addr → Pt → Prop} (hK : vx_Back l R p e below s args y 3 W Pre Post PostX)
    {g : JFrame} (hg : g.method = m) (hsize : g.locals.size = c.maxLocals) {argsL rest : List Value} (hlen : ∀ sig, parseMethodDescriptor y.desc = some sig → argsL.length = sig.parameters.length)
    (hstack : g.stack = argsL.reverse ++ rest) (hW : 2 * g.monitorRoom + (rest.map fun v => v.category).sum ≤ W) (hdg : decode c.code g.pc = .ok (.invokestatic index, 3))
    (hpre : ∀ vm₁, s.WarmedH vm₁ → Pre ⟨T.setVm vm₁, locs, cells, slots⟩ argsL.toArray) :
    (∃ (v : Option Value) (vm₁ : Vm) (B : Pt), s.WarmedH vm₁ ∧ Stand p l e R s m args below meth c B.U B.locs B.cells B.slots ∧ Post ⟨T.setVm vm₁, locs, cells, slots⟩ argsL.toArray v B ∧
      ∀ target, Steps p.tables e below (B.U.setTop { g with pc := g.pc + 3, stack := v.toList ++ rest }) target → Steps p.tables e below (T.setTop g) target) ∨
    (∃ (q : Addr) (vm₁ : Vm) (B : Pt), s.WarmedH vm₁ ∧ Stand p l e R s m args below meth c B.U B.locs B.cells B.slots ∧ PostX ⟨T.setVm vm₁, locs, cells, slots⟩ argsL.toArray q B ∧
      Steps p.tables e below (T.setTop g) ((B.U.setTop { g with stack := rest }).pushFrame (.throwing q))) := by
  obtain ⟨mk, hnamed⟩ := Cond.code_named hcode
  obtain ⟨methM, cM, hmethM, -, -, -, -, -, -, hsigM⟩ := Cond.code_spec hnamed hcode
  have hstatic : methM.isStatic = true := Cond.static_spec hnamed hmethM hstat
  obtain ⟨kP, hkP, -⟩ := className_of_methodNamed hnamed
  have hinitP : kP.init = .initialized := Cond.initialized_spec (findClass_of_methodNamed hnamed) hkP hinit
  obtain ⟨vm₁, X₁, hstep₁⟩ := X.invokestaticNest hexec hown hlink hnamed hmethM hstatic hkP hinitP hy (g := g) hg (argsL := argsL) (rest := rest) (hlen _ hsigM) hstack hdg
  rcases hK m meth c ⟨T.setVm vm₁, locs, cells, slots⟩ { g with stack := rest } (.invokestatic index) mk argsL.toArray X₁ hg hsize hdg hW (X₁.named hnamed) (hpre vm₁ X₁.warmed) with ⟨v, B, X', hpost, hsteps⟩ | ⟨q, B, X', hpost, hsteps⟩
  · exact Or.inl ⟨v, vm₁, B, X₁.warmed, X', hpost, fun target h => hstep₁ _ fun acts => by rw [doInvoke_state]; exact hsteps.trans h⟩
  · exact Or.inr ⟨q, vm₁, B, X₁.warmed, X', hpost, hstep₁ _ fun acts => by rw [doInvoke_state]; exact hsteps⟩
theorem vx_runVN {y : MethodName} {bytes cc : ByteArray} {maxL nL mc ms n index : Nat} {ret : Option FieldType} {ws : List Cond} {rm : Room} {Pc : Array Value → State → Prop} {Qc : Array Value → State → Outcome → State → Prop} {XC : String → State → State → Prop} {free : Addr → Prop} {Ts : List Cond} {own C host : String} {b : Addr} {As rest : List Value} {g : JFrame}
    (S : CallFix p m c cc nL s args Ts own) (hM : vx_Met l y ws rm Pc Qc XC mc ms free) (cw : va_CN R s args own index y host bytes maxL ret ws rm mc ms n ∧ (Cond.instanceMethod y).before args s = true ∧ (Cond.selects C y y).before args s = true) (hp : PreV s H C b Pc As)
    (hg : g.method = m) (hn : As.length = n) (hsize : g.locals.size = nL) (hstack : g.stack = As.reverse ++ .ref b :: rest) (hW : 2 * g.monitorRoom + (rest.map fun v => v.category).sum ≤ 8) (hdg : decode cc g.pc = .ok (.invokevirtual index, 3)) (hf : cells + mc ≤ R.cells ∧ slots + ms ≤ R.slots) :
    vx_Run p l e R s m args below meth c H locs cells slots mc ms g rest (Qc (Value.ref b :: As).toArray) XC free := by
  obtain ⟨⟨⟨hrc, hrs, hfr, hlo, hws, hcw⟩, hcode, hini, hy, hlen, hl⟩, hx1, hx2⟩ := cw
  have hK : vx_Back l R p e below s args y 3 8 (PreOf R mc ms Pc) (PostOf Qc mc ms free) (vx_Post XC mc ms free) := vx_back (bytes := bytes) (maxL := maxL) (ret := ret) hM hp.1 hrc hrs hfr hlo hws hcw (fun a' U hW => word_at hW (Or.inl (by first | rfl | simp [Cond.onTables, Cond.keeps, Cond.steady])) hini)
  obtain ⟨hx, hb, hml, ho, -⟩ := S
  obtain ⟨-, ⟨cellB, hcB, hoB, hclB⟩, hPc⟩ := hp
  intro T hT X
  rcases vx_callVN X hx (C := C) (bytes := bytes) (maxL := maxL) (ret := ret) ho hl hx1 hx2 hcode hy hK (by rw [hT]; exact hcB) hoB hclB hg (hsize.trans hml.symm) (argsL := As) (rest := rest) (fun sig h => hn.trans (hlen sig h)) hstack hW (by rw [hb]; exact hdg)
    (fun vm₁ hW₁ => ⟨hf.1, hf.2, hPc (T.setVm vm₁) hT hW₁⟩) with ⟨v, vm₁, ⟨U', l2, c2, s2⟩, hW₁, X', ⟨g', mk, t, L, e1, e2, hq, h1, hL, h2, h3⟩, st⟩ | ⟨q, vm₁, ⟨U', l2, c2, s2⟩, hW₁, X', ⟨g', mk, t, L, E, ce, e1, e2, hq, hce, hcv, hcl, h1, hL, h2, h3⟩, st⟩
  · dsimp only [Pt.U, Pt.locs, Pt.cells, Pt.slots] at X' e1 e2 h1 h2 h3 st
    subst h1; subst h2; subst h3
    exact Or.inl ⟨v, (T.setVm vm₁).calling g' mk (Value.ref b :: As).toArray, t, U', L, hT, X', hL, e1, e2, hq, st⟩
  · dsimp only [Pt.U, Pt.locs, Pt.cells, Pt.slots] at X' e1 e2 h1 h2 h3 st hcl
    subst h1; subst h2; subst h3
    exact Or.inr ⟨q, (T.setVm vm₁).calling g' mk (Value.ref b :: As).toArray, t, U', L, E, ce, hT, X', hL, e1, e2, hq, hce, hcv, vx_cls hW₁ hcl, st⟩
theorem vx_runSN {y : MethodName} {bytes cc : ByteArray} {maxL nL mc ms n index : Nat} {ret : Option FieldType} {ws : List Cond} {rm : Room} {Pc : Array Value → State → Prop} {Qc : Array Value → State → Outcome → State → Prop} {XC : String → State → State → Prop} {free : Addr → Prop} {Ts : List Cond} {own host : String} {As rest : List Value} {g : JFrame}
    (S : CallFix p m c cc nL s args Ts own) (hM : vx_Met l y ws rm Pc Qc XC mc ms free) (cw : va_CN R s args own index y host bytes maxL ret ws rm mc ms n ∧ (Cond.static y).before args s = true ∧ True) (hp : PreS s H Pc As)
    (hg : g.method = m) (hn : As.length = n) (hsize : g.locals.size = nL) (hstack : g.stack = As.reverse ++ rest) (hW : 2 * g.monitorRoom + (rest.map fun v => v.category).sum ≤ 8) (hdg : decode cc g.pc = .ok (.invokestatic index, 3)) (hf : cells + mc ≤ R.cells ∧ slots + ms ≤ R.slots) :
    vx_Run p l e R s m args below meth c H locs cells slots mc ms g rest (Qc As.toArray) XC free := by
  obtain ⟨⟨⟨hrc, hrs, hfr, hlo, hws, hcw⟩, hcode, hini, hy, hlen, hl⟩, hx1, hx2⟩ := cw
  have hK : vx_Back l R p e below s args y 3 8 (PreOf R mc ms Pc) (PostOf Qc mc ms free) (vx_Post XC mc ms free) := vx_back (bytes := bytes) (maxL := maxL) (ret := ret) hM hp.1 hrc hrs hfr hlo hws hcw (fun a' U hW => word_at hW (Or.inl (by first | rfl | simp [Cond.onTables, Cond.keeps, Cond.steady])) hini)
  obtain ⟨hx, hb, hml, ho, -⟩ := S
  have hPc := hp.2
  intro T hT X
  rcases vx_callSN X hx (bytes := bytes) (maxL := maxL) (ret := ret) ho hl hx1 hini hcode hy hK hg (hsize.trans hml.symm) (argsL := As) (rest := rest) (fun sig h => hn.trans (hlen sig h)) hstack hW (by rw [hb]; exact hdg)
    (fun vm₁ hW₁ => ⟨hf.1, hf.2, hPc (T.setVm vm₁) hT hW₁⟩) with ⟨v, vm₁, ⟨U', l2, c2, s2⟩, hW₁, X', ⟨g', mk, t, L, e1, e2, hq, h1, hL, h2, h3⟩, st⟩ | ⟨q, vm₁, ⟨U', l2, c2, s2⟩, hW₁, X', ⟨g', mk, t, L, E, ce, e1, e2, hq, hce, hcv, hcl, h1, hL, h2, h3⟩, st⟩
  · dsimp only [Pt.U, Pt.locs, Pt.cells, Pt.slots] at X' e1 e2 h1 h2 h3 st
    subst h1; subst h2; subst h3
    exact Or.inl ⟨v, (T.setVm vm₁).calling g' mk As.toArray, t, U', L, hT, X', hL, e1, e2, hq, st⟩
  · dsimp only [Pt.U, Pt.locs, Pt.cells, Pt.slots] at X' e1 e2 h1 h2 h3 st hcl
    subst h1; subst h2; subst h3
    exact Or.inr ⟨q, (T.setVm vm₁).calling g' mk As.toArray, t, U', L, E, ce, hT, X', hL, e1, e2, hq, hce, hcv, vx_cls hW₁ hcl, st⟩
end
/-! ===== END ===== -/
/-! ===== BEGIN calls by an interface of methods that may throw (vx_callIF, vx_runF follow va_callIF, va_runF of this kit) ===== -/
section
variable {p : Program} {l : Launch} {e : Env} {R : Room} {s : State} {m : MethodId} {args : Array Value} {below : List Frame} {meth : Method} {c : Code} {H : Heap} {locs : List Loc} {cells slots : Nat} {Q : State → Prop}
variable {mc ms : Nat} {free : Addr → Prop} {A0 A1 : Nat → Prop} {H0 : Heap} {a : Array Value} {pc : Nat} {ls : Array Slot} {st0 rest : List Value}
def vx_Run5 (p : Program) (l : Launch) (e : Env) (R : Room) (s : State) (m : MethodId) (args : Array Value) (below : List Frame) (meth : Method) (c : Code) (H : Heap) (locs : List Loc) (cells slots mc ms : Nat) (g : JFrame) (rest : List Value) (Qa : State → Outcome → State → Prop) (XC : String → State → State → Prop) (free : Addr → Prop) : Prop :=
  ∀ T : State, T.heap = H → Stand p l e R s m args below meth c T locs cells slots →
    (∃ (v : Option Value) (st₀ t T' : State) (L : List Loc), st₀.heap = H ∧ Stand p l e R s m args below meth c T' (locs ++ L) (cells + mc) (slots + ms) ∧ (∀ q ∈ L, free q.base) ∧ T'.heap = t.heap ∧ T'.vm = t.vm ∧ Qa st₀ (.returned v) t ∧
      Goes p e below T g T' { g with pc := g.pc + 5, stack := v.toList ++ rest }) ∨
    (∃ (q : Addr) (st₀ t T' : State) (L : List Loc) (E : String) (ce : Cell), st₀.heap = H ∧ Stand p l e R s m args below meth c T' (locs ++ L) (cells + mc) (slots + ms) ∧ (∀ z ∈ L, free z.base) ∧ T'.heap = t.heap ∧ T'.vm = t.vm ∧ XC E st₀ t ∧ t.heap[q]? = some ce ∧ ce.vm = .none ∧ s.vm.findClass E = some ce.cls ∧
      Steps p.tables e below (T.setTop g) ((T'.setTop { g with stack := rest }).pushFrame (.throwing q)))
theorem vx_callIF {T : State} (X : Stand p l e R s m args below meth c T locs cells slots) (hexec : p.tables.exec = Jvm.exec) {own C : String} {index count : Nat} {x y : MethodName} {bytes : ByteArray} {maxL : Nat} {ret : Option FieldType}
    (hown : s.vm.findClass own = some m.cls) (hlink : (Cond.methodLink own index x).before args s = true) (hdecl : (Cond.declares x).before args s = true) (hface : (Cond.interfaceMethod x.cls x.cls x.name x.desc).before args s = true)
    (hsel : (Cond.selects C x y).before args s = true) (hinst : (Cond.instanceMethod y).before args s = true) (hpub : (Cond.publicMethod y).before args s = true) (hunh : (Cond.unhidden C x.name x.desc).before args s = true)
    (hcast : (Cond.castable C x.cls).before args s = true) (hcode : (Cond.code y bytes maxL ret).before args s = true) (hx : x.cls ≠ "java/lang/invoke/MethodHandle" ∧ x.cls ≠ "java/lang/invoke/VarHandle")
    {W9 : Nat} {Pre : Pt → Array Value → Prop} {Post : Pt → Array Value → Option Value → Pt → Prop} {PostX : Pt → Array Value → Addr → Pt → Prop} (hK : vx_Back l R p e below s args y 5 W9 Pre Post PostX)
    {b : Addr} {cellB : Cell} {kB : Class} (hcell : T.heap[b]? = some cellB) (hobj : cellB.vm.isStatics = false) (hcls : s.vm.findClass C = some cellB.cls) (hkB : s.vm.classes[cellB.cls]? = some kB)
    {g : JFrame} (hg : g.method = m) (hsize : g.locals.size = c.maxLocals) {argsL rest : List Value} (hlen : ∀ sig, parseMethodDescriptor x.desc = some sig → argsL.length = sig.parameters.length)
    (hstack : g.stack = argsL.reverse ++ .ref b :: rest) (hW : 2 * g.monitorRoom + (rest.map fun v => v.category).sum ≤ W9) (hdg : decode c.code g.pc = .ok (.invokeinterface index count, 5))
    (hpre : ∀ vm₁, s.WarmedH vm₁ → Pre ⟨T.setVm vm₁, locs, cells, slots⟩ (Value.ref b :: argsL).toArray) :
    (∃ (v : Option Value) (vm₁ : Vm) (B : Pt), s.WarmedH vm₁ ∧ Stand p l e R s m args below meth c B.U B.locs B.cells B.slots ∧ Post ⟨T.setVm vm₁, locs, cells, slots⟩ (Value.ref b :: argsL).toArray v B ∧
      ∀ target, Steps p.tables e below (B.U.setTop { g with pc := g.pc + 5, stack := v.toList ++ rest }) target → Steps p.tables e below (T.setTop g) target) ∨
    (∃ (q : Addr) (vm₁ : Vm) (B : Pt), s.WarmedH vm₁ ∧ Stand p l e R s m args below meth c B.U B.locs B.cells B.slots ∧ PostX ⟨T.setVm vm₁, locs, cells, slots⟩ (Value.ref b :: argsL).toArray q B ∧
      Steps p.tables e below (T.setTop g) ((B.U.setTop { g with stack := rest }).pushFrame (.throwing q))) := by
  obtain ⟨r0, r, hn, hrm, hstR, hsigR⟩ := Cond.declares_spec hdecl
  obtain ⟨cL, kL, r1, hcL, hkL, hiL, hfoundL, hn1⟩ := Cond.interfaceMethod_spec hface
  cases hn.symm.trans hn1
  have hr0cls : r0.cls = cL := Option.some.inj ((findClass_of_methodNamed hn).symm.trans hcL)
  obtain ⟨hnameR, hdescR⟩ := name_of_methodNamed hn hrm
  obtain ⟨mk, methM, hnamed, hmethM, -, habM⟩ := Cond.instanceMethod_spec hinst
  obtain ⟨c2, r2, m2, q1, q2, q3, q4, -⟩ := Cond.selects_spec hsel
  cases hcls.symm.trans q1
  cases hfoundL.symm.trans q2
  cases hnamed.symm.trans q3
  have hselP : selectMethod e.platform s.vm cellB.cls r0 = .method mk := by rw [Launch.admits_selectMethod X.admits]; exact q4
  have hpubM : hasFlag methM.accessFlags Acc.public_ = true := Cond.publicMethod_spec hnamed hmethM hpub
  have hway : ((cellB.cls :: s.vm.superclasses cellB.cls).any fun k => (declaredIn s.vm r.name r.desc k).any fun (_, z) => z.isPrivate || z.isStatic) = false := by
    rw [hnameR, hdescR]; exact Cond.unhidden_spec hcls hunh
  obtain ⟨c3, t3, w1, w2, w3⟩ := Cond.castable_spec hcast
  cases hcls.symm.trans w1
  cases hcL.symm.trans w2
  obtain ⟨vm₁, X₁, hstep₁⟩ := X.invokeinterface hexec hown hlink hn hrm hstR (by rw [hr0cls]; exact hkL) hiL hx (a := b) (cell := cellB) (kcell := kB) hcell
    (fun z h => by rw [h] at hobj; cases hobj) hkB (by rw [hr0cls]; exact w3) hselP hmethM hway hpubM habM (g := g) hg (argsL := argsL) (rest := rest) (hlen _ hsigR) hstack hdg
  rcases hK m meth c ⟨T.setVm vm₁, locs, cells, slots⟩ { g with stack := rest } (.invokeinterface index count) mk (Value.ref b :: argsL).toArray X₁ hg hsize hdg hW (X₁.named hnamed) (hpre vm₁ X₁.warmed) with ⟨v, B, X', hpost, hsteps⟩ | ⟨q, B, X', hpost, hsteps⟩
  · exact Or.inl ⟨v, vm₁, B, X₁.warmed, X', hpost, fun target h => hstep₁ _ fun acts => by rw [doInvoke_state]; exact hsteps.trans h⟩
  · exact Or.inr ⟨q, vm₁, B, X₁.warmed, X', hpost, hstep₁ _ fun acts => by rw [doInvoke_state]; exact hsteps⟩
theorem vx_runF {x y : MethodName} {bytes cc : ByteArray} {maxL nL mc ms n index count : Nat} {ret : Option FieldType} {ws : List Cond} {rm : Room} {Pc : Array Value → State → Prop} {Qc : Array Value → State → Outcome → State → Prop} {XC : String → State → State → Prop} {free : Addr → Prop} {Ts : List Cond} {own C : String} {cC : ClassId} {b : Addr} {As rest : List Value} {g : JFrame}
    (hat : ClassAt s C cC) (S : CallFix p m c cc nL s args Ts own) (hM : vx_Met l y ws rm Pc Qc XC mc ms free) (cw : va_CI R s args own C index x y bytes maxL ret ws rm mc ms n) (hp : PreV s H C b Pc As)
    (hg : g.method = m) (hn : As.length = n) (hsize : g.locals.size = nL) (hstack : g.stack = As.reverse ++ .ref b :: rest) (hW : 2 * g.monitorRoom + (rest.map fun v => v.category).sum ≤ 8) (hdg : decode cc g.pc = .ok (.invokeinterface index count, 5)) (hf : cells + mc ≤ R.cells ∧ slots + ms ≤ R.slots) :
    vx_Run5 p l e R s m args below meth c H locs cells slots mc ms g rest (Qc (Value.ref b :: As).toArray) XC free := by
  obtain ⟨hrc, hrs, hfr, hlo, hws, hcw⟩ := cw.back
  have hini := cw.init
  have hK : vx_Back l R p e below s args y 5 8 (PreOf R mc ms Pc) (PostOf Qc mc ms free) (vx_Post XC mc ms free) := vx_back (bytes := bytes) (maxL := maxL) (ret := ret) hM hp.1 hrc hrs hfr hlo hws hcw (fun a' U hW => word_at hW (Or.inl (by first | rfl | simp [Cond.onTables, Cond.keeps, Cond.steady])) hini)
  obtain ⟨hx, hb, hml, ho, -⟩ := S
  obtain ⟨-, ⟨cellB, hcB, hoB, hclB⟩, hPc⟩ := hp
  obtain ⟨hfc, kB, hkB, -⟩ := hat
  cases hfc.symm.trans hclB
  intro T hT X
  rcases vx_callIF X hx (C := C) (bytes := bytes) (maxL := maxL) (ret := ret) ho cw.link cw.decl cw.face cw.sel cw.inst cw.pub cw.unh cw.cast cw.code cw.notMH hK (by rw [hT]; exact hcB) hoB hclB hkB hg (hsize.trans hml.symm) (argsL := As) (rest := rest) (fun sig h => hn.trans (cw.len sig h)) hstack hW (by rw [hb]; exact hdg)
    (fun vm₁ hW₁ => ⟨hf.1, hf.2, hPc (T.setVm vm₁) hT hW₁⟩) with ⟨v, vm₁, ⟨U', l2, c2, s2⟩, hW₁, X', ⟨g', mk, t, L, e1, e2, hq, h1, hL, h2, h3⟩, st⟩ | ⟨q, vm₁, ⟨U', l2, c2, s2⟩, hW₁, X', ⟨g', mk, t, L, E, ce, e1, e2, hq, hce, hcv, hcl, h1, hL, h2, h3⟩, st⟩
  · dsimp only [Pt.U, Pt.locs, Pt.cells, Pt.slots] at X' e1 e2 h1 h2 h3 st
    subst h1; subst h2; subst h3
    exact Or.inl ⟨v, (T.setVm vm₁).calling g' mk (Value.ref b :: As).toArray, t, U', L, hT, X', hL, e1, e2, hq, st⟩
  · dsimp only [Pt.U, Pt.locs, Pt.cells, Pt.slots] at X' e1 e2 h1 h2 h3 st hcl
    subst h1; subst h2; subst h3
    exact Or.inr ⟨q, (T.setVm vm₁).calling g' mk (Value.ref b :: As).toArray, t, U', L, E, ce, hT, X', hL, e1, e2, hq, hce, hcv, vx_cls hW₁ hcl, st⟩
theorem vx_callFv {S SX : Type} {post : S → Prop} {px : SX → Prop} {B : S → State → Prop} {BX : String → SX → State → Prop} {AX : Nat → Prop} (hr : vx_Run5 p l e R s m args below meth c H locs cells slots mc ms (F0 m pc ls st0) rest (va_Qv post B A1 a) (vx_X px BX AX) free) (hS : va_S A0 H0 H locs) (hA : ∀ q, q < H.size → A1 q → A0 q) (hf : ∀ q, free q → A0 q) (hAX : ∀ q, q < H.size → AX q → A0 q)
    (kx : ∀ (E : String) (ce : Cell) (q9 : Addr) (u : SX) (t : State) (H1 : Heap) (locs1 : List Loc), t.heap = H1 → s.vm.Alike t.vm → px u → BX E u t → H.size ≤ H1.size → (∀ q : Nat, q < H.size → ¬ AX q → H1[q]? = H[q]?) → va_S A0 H0 H1 locs1 → H1[q9]? = some ce → ce.vm = .none → s.vm.findClass E = some ce.cls → vx_W p l e R s m args below meth c H1 locs1 (cells + mc) (slots + ms) Q (F0 m pc ls rest) q9)
    (kk : ∀ (u : S) (t : State) (H1 : Heap) (locs1 : List Loc), t.heap = H1 → s.vm.Alike t.vm → post u → B u t → H.size ≤ H1.size → (∀ q : Nat, q < H.size → ¬ A1 q → H1[q]? = H[q]?) → va_S A0 H0 H1 locs1 → W p l e R s m args below meth c H1 locs1 (cells + mc) (slots + ms) Q (F0 m (pc + 5) ls (rest))) : W p l e R s m args below meth c H locs cells slots Q (F0 m pc ls st0) := by
  intro T hT X
  rcases hr T hT X with ⟨v, st₀, t, T', L, h0, X', hL, e1, e2, ⟨⟨u, hv, hp, hb⟩, hF⟩, st⟩ | ⟨q, st₀, t, T', L, E, ce, h0, X', hL, e1, e2, ⟨u, hp, hb, hF⟩, hce, hcv, hcl, st⟩
  · cases hv
    obtain ⟨k1, k2, k3⟩ := vx_keep h0 e1 hS hA hf hL hF
    obtain ⟨t2, a1, b1⟩ := kk u t T'.heap (locs ++ L) e1.symm (by rw [← e2]; exact X'.warmed.alike) hp hb k1 k2 k3 T' rfl X'
    exact ⟨t2, st t2 a1, b1⟩
  · obtain ⟨k1, k2, k3⟩ := vx_keep h0 e1 hS hAX hf hL hF
    obtain ⟨t2, a1, b1⟩ := kx E ce q u t T'.heap (locs ++ L) e1.symm (by rw [← e2]; exact X'.warmed.alike) hp hb k1 k2 k3 (by rw [e1]; exact hce) hcv hcl T' rfl X'
    exact ⟨t2, st.trans a1, b1⟩
theorem vx_callFi {S SX : Type} {post : Int32 → S → Prop} {px : SX → Prop} {B : S → State → Prop} {BX : String → SX → State → Prop} {AX : Nat → Prop} (hr : vx_Run5 p l e R s m args below meth c H locs cells slots mc ms (F0 m pc ls st0) rest (va_Qi post B A1 a) (vx_X px BX AX) free) (hS : va_S A0 H0 H locs) (hA : ∀ q, q < H.size → A1 q → A0 q) (hf : ∀ q, free q → A0 q) (hAX : ∀ q, q < H.size → AX q → A0 q)
    (kx : ∀ (E : String) (ce : Cell) (q9 : Addr) (u : SX) (t : State) (H1 : Heap) (locs1 : List Loc), t.heap = H1 → s.vm.Alike t.vm → px u → BX E u t → H.size ≤ H1.size → (∀ q : Nat, q < H.size → ¬ AX q → H1[q]? = H[q]?) → va_S A0 H0 H1 locs1 → H1[q9]? = some ce → ce.vm = .none → s.vm.findClass E = some ce.cls → vx_W p l e R s m args below meth c H1 locs1 (cells + mc) (slots + ms) Q (F0 m pc ls rest) q9)
    (kk : ∀ (r : Int32) (u : S) (t : State) (H1 : Heap) (locs1 : List Loc), t.heap = H1 → s.vm.Alike t.vm → post r u → B u t → H.size ≤ H1.size → (∀ q : Nat, q < H.size → ¬ A1 q → H1[q]? = H[q]?) → va_S A0 H0 H1 locs1 → W p l e R s m args below meth c H1 locs1 (cells + mc) (slots + ms) Q (F0 m (pc + 5) ls (.int r :: rest))) : W p l e R s m args below meth c H locs cells slots Q (F0 m pc ls st0) := by
  intro T hT X
  rcases hr T hT X with ⟨v, st₀, t, T', L, h0, X', hL, e1, e2, ⟨⟨r, u, hv, hp, hb⟩, hF⟩, st⟩ | ⟨q, st₀, t, T', L, E, ce, h0, X', hL, e1, e2, ⟨u, hp, hb, hF⟩, hce, hcv, hcl, st⟩
  · cases hv
    obtain ⟨k1, k2, k3⟩ := vx_keep h0 e1 hS hA hf hL hF
    obtain ⟨t2, a1, b1⟩ := kk r u t T'.heap (locs ++ L) e1.symm (by rw [← e2]; exact X'.warmed.alike) hp hb k1 k2 k3 T' rfl X'
    exact ⟨t2, st t2 a1, b1⟩
  · obtain ⟨k1, k2, k3⟩ := vx_keep h0 e1 hS hAX hf hL hF
    obtain ⟨t2, a1, b1⟩ := kx E ce q u t T'.heap (locs ++ L) e1.symm (by rw [← e2]; exact X'.warmed.alike) hp hb k1 k2 k3 (by rw [e1]; exact hce) hcv hcl T' rfl X'
    exact ⟨t2, st.trans a1, b1⟩
theorem vx_callFl {S SX : Type} {post : Int64 → S → Prop} {px : SX → Prop} {B : S → State → Prop} {BX : String → SX → State → Prop} {AX : Nat → Prop} (hr : vx_Run5 p l e R s m args below meth c H locs cells slots mc ms (F0 m pc ls st0) rest (va_Ql post B A1 a) (vx_X px BX AX) free) (hS : va_S A0 H0 H locs) (hA : ∀ q, q < H.size → A1 q → A0 q) (hf : ∀ q, free q → A0 q) (hAX : ∀ q, q < H.size → AX q → A0 q)
    (kx : ∀ (E : String) (ce : Cell) (q9 : Addr) (u : SX) (t : State) (H1 : Heap) (locs1 : List Loc), t.heap = H1 → s.vm.Alike t.vm → px u → BX E u t → H.size ≤ H1.size → (∀ q : Nat, q < H.size → ¬ AX q → H1[q]? = H[q]?) → va_S A0 H0 H1 locs1 → H1[q9]? = some ce → ce.vm = .none → s.vm.findClass E = some ce.cls → vx_W p l e R s m args below meth c H1 locs1 (cells + mc) (slots + ms) Q (F0 m pc ls rest) q9)
    (kk : ∀ (r : Int64) (u : S) (t : State) (H1 : Heap) (locs1 : List Loc), t.heap = H1 → s.vm.Alike t.vm → post r u → B u t → H.size ≤ H1.size → (∀ q : Nat, q < H.size → ¬ A1 q → H1[q]? = H[q]?) → va_S A0 H0 H1 locs1 → W p l e R s m args below meth c H1 locs1 (cells + mc) (slots + ms) Q (F0 m (pc + 5) ls (.long r :: rest))) : W p l e R s m args below meth c H locs cells slots Q (F0 m pc ls st0) := by
  intro T hT X
  rcases hr T hT X with ⟨v, st₀, t, T', L, h0, X', hL, e1, e2, ⟨⟨r, u, hv, hp, hb⟩, hF⟩, st⟩ | ⟨q, st₀, t, T', L, E, ce, h0, X', hL, e1, e2, ⟨u, hp, hb, hF⟩, hce, hcv, hcl, st⟩
  · cases hv
    obtain ⟨k1, k2, k3⟩ := vx_keep h0 e1 hS hA hf hL hF
    obtain ⟨t2, a1, b1⟩ := kk r u t T'.heap (locs ++ L) e1.symm (by rw [← e2]; exact X'.warmed.alike) hp hb k1 k2 k3 T' rfl X'
    exact ⟨t2, st t2 a1, b1⟩
  · obtain ⟨k1, k2, k3⟩ := vx_keep h0 e1 hS hAX hf hL hF
    obtain ⟨t2, a1, b1⟩ := kx E ce q u t T'.heap (locs ++ L) e1.symm (by rw [← e2]; exact X'.warmed.alike) hp hb k1 k2 k3 (by rw [e1]; exact hce) hcv hcl T' rfl X'
    exact ⟨t2, st.trans a1, b1⟩
theorem vx_callFf {S SX : Type} {post : UInt32 → S → Prop} {px : SX → Prop} {B : S → State → Prop} {BX : String → SX → State → Prop} {AX : Nat → Prop} (hr : vx_Run5 p l e R s m args below meth c H locs cells slots mc ms (F0 m pc ls st0) rest (va_Qf post B A1 a) (vx_X px BX AX) free) (hS : va_S A0 H0 H locs) (hA : ∀ q, q < H.size → A1 q → A0 q) (hf : ∀ q, free q → A0 q) (hAX : ∀ q, q < H.size → AX q → A0 q)
    (kx : ∀ (E : String) (ce : Cell) (q9 : Addr) (u : SX) (t : State) (H1 : Heap) (locs1 : List Loc), t.heap = H1 → s.vm.Alike t.vm → px u → BX E u t → H.size ≤ H1.size → (∀ q : Nat, q < H.size → ¬ AX q → H1[q]? = H[q]?) → va_S A0 H0 H1 locs1 → H1[q9]? = some ce → ce.vm = .none → s.vm.findClass E = some ce.cls → vx_W p l e R s m args below meth c H1 locs1 (cells + mc) (slots + ms) Q (F0 m pc ls rest) q9)
    (kk : ∀ (r : UInt32) (u : S) (t : State) (H1 : Heap) (locs1 : List Loc), t.heap = H1 → s.vm.Alike t.vm → post r u → B u t → H.size ≤ H1.size → (∀ q : Nat, q < H.size → ¬ A1 q → H1[q]? = H[q]?) → va_S A0 H0 H1 locs1 → W p l e R s m args below meth c H1 locs1 (cells + mc) (slots + ms) Q (F0 m (pc + 5) ls (.float r :: rest))) : W p l e R s m args below meth c H locs cells slots Q (F0 m pc ls st0) := by
  intro T hT X
  rcases hr T hT X with ⟨v, st₀, t, T', L, h0, X', hL, e1, e2, ⟨⟨r, u, hv, hp, hb⟩, hF⟩, st⟩ | ⟨q, st₀, t, T', L, E, ce, h0, X', hL, e1, e2, ⟨u, hp, hb, hF⟩, hce, hcv, hcl, st⟩
  · cases hv
    obtain ⟨k1, k2, k3⟩ := vx_keep h0 e1 hS hA hf hL hF
    obtain ⟨t2, a1, b1⟩ := kk r u t T'.heap (locs ++ L) e1.symm (by rw [← e2]; exact X'.warmed.alike) hp hb k1 k2 k3 T' rfl X'
    exact ⟨t2, st t2 a1, b1⟩
  · obtain ⟨k1, k2, k3⟩ := vx_keep h0 e1 hS hAX hf hL hF
    obtain ⟨t2, a1, b1⟩ := kx E ce q u t T'.heap (locs ++ L) e1.symm (by rw [← e2]; exact X'.warmed.alike) hp hb k1 k2 k3 (by rw [e1]; exact hce) hcv hcl T' rfl X'
    exact ⟨t2, st.trans a1, b1⟩
theorem vx_callFd {S SX : Type} {post : UInt64 → S → Prop} {px : SX → Prop} {B : S → State → Prop} {BX : String → SX → State → Prop} {AX : Nat → Prop} (hr : vx_Run5 p l e R s m args below meth c H locs cells slots mc ms (F0 m pc ls st0) rest (va_Qd post B A1 a) (vx_X px BX AX) free) (hS : va_S A0 H0 H locs) (hA : ∀ q, q < H.size → A1 q → A0 q) (hf : ∀ q, free q → A0 q) (hAX : ∀ q, q < H.size → AX q → A0 q)
    (kx : ∀ (E : String) (ce : Cell) (q9 : Addr) (u : SX) (t : State) (H1 : Heap) (locs1 : List Loc), t.heap = H1 → s.vm.Alike t.vm → px u → BX E u t → H.size ≤ H1.size → (∀ q : Nat, q < H.size → ¬ AX q → H1[q]? = H[q]?) → va_S A0 H0 H1 locs1 → H1[q9]? = some ce → ce.vm = .none → s.vm.findClass E = some ce.cls → vx_W p l e R s m args below meth c H1 locs1 (cells + mc) (slots + ms) Q (F0 m pc ls rest) q9)
    (kk : ∀ (r : UInt64) (u : S) (t : State) (H1 : Heap) (locs1 : List Loc), t.heap = H1 → s.vm.Alike t.vm → post r u → B u t → H.size ≤ H1.size → (∀ q : Nat, q < H.size → ¬ A1 q → H1[q]? = H[q]?) → va_S A0 H0 H1 locs1 → W p l e R s m args below meth c H1 locs1 (cells + mc) (slots + ms) Q (F0 m (pc + 5) ls (.double r :: rest))) : W p l e R s m args below meth c H locs cells slots Q (F0 m pc ls st0) := by
  intro T hT X
  rcases hr T hT X with ⟨v, st₀, t, T', L, h0, X', hL, e1, e2, ⟨⟨r, u, hv, hp, hb⟩, hF⟩, st⟩ | ⟨q, st₀, t, T', L, E, ce, h0, X', hL, e1, e2, ⟨u, hp, hb, hF⟩, hce, hcv, hcl, st⟩
  · cases hv
    obtain ⟨k1, k2, k3⟩ := vx_keep h0 e1 hS hA hf hL hF
    obtain ⟨t2, a1, b1⟩ := kk r u t T'.heap (locs ++ L) e1.symm (by rw [← e2]; exact X'.warmed.alike) hp hb k1 k2 k3 T' rfl X'
    exact ⟨t2, st t2 a1, b1⟩
  · obtain ⟨k1, k2, k3⟩ := vx_keep h0 e1 hS hAX hf hL hF
    obtain ⟨t2, a1, b1⟩ := kx E ce q u t T'.heap (locs ++ L) e1.symm (by rw [← e2]; exact X'.warmed.alike) hp hb k1 k2 k3 (by rw [e1]; exact hce) hcv hcl T' rfl X'
    exact ⟨t2, st.trans a1, b1⟩
end
/-! ===== END ===== -/
/-! ===== BEGIN by an interface, a method with a table of its own that may throw (follows va_callIFW, va_runFW) ===== -/
section
variable {p : Program} {l : Launch} {e : Env} {R : Room} {s : State} {m : MethodId} {args : Array Value} {below : List Frame} {meth : Method} {c : Code} {H : Heap} {locs : List Loc} {cells slots : Nat}
theorem vx_callIFW {T : State} (X : Stand p l e R s m args below meth c T locs cells slots) (hexec : p.tables.exec = Jvm.exec) {own C : String} {index count : Nat} {x y : MethodName} {bytes : ByteArray} {maxL : Nat} {ret : Option FieldType} {hh : List (Nat × Nat × Nat × Nat)}
    (hown : s.vm.findClass own = some m.cls) (hlink : (Cond.methodLink own index x).before args s = true) (hdecl : (Cond.declares x).before args s = true) (hface : (Cond.interfaceMethod x.cls x.cls x.name x.desc).before args s = true)
    (hsel : (Cond.selects C x y).before args s = true) (hinst : (Cond.instanceMethod y).before args s = true) (hpub : (Cond.publicMethod y).before args s = true) (hunh : (Cond.unhidden C x.name x.desc).before args s = true)
    (hcast : (Cond.castable C x.cls).before args s = true) (hcode : (Cond.codeWith y bytes maxL ret hh).before args s = true) (hx : x.cls ≠ "java/lang/invoke/MethodHandle" ∧ x.cls ≠ "java/lang/invoke/VarHandle")
    {W : Nat} {Pre : Pt → Array Value → Prop} {Post : Pt → Array Value → Option Value → Pt → Prop} {PostX : Pt → Array Value → Addr → Pt → Prop} (hK : vx_Back l R p e below s args y 5 W Pre Post PostX)
    {b : Addr} {cellB : Cell} {kB : Class} (hcell : T.heap[b]? = some cellB) (hobj : cellB.vm.isStatics = false) (hcls : s.vm.findClass C = some cellB.cls) (hkB : s.vm.classes[cellB.cls]? = some kB)
    {g : JFrame} (hg : g.method = m) (hsize : g.locals.size = c.maxLocals) {argsL rest : List Value} (hlen : ∀ sig, parseMethodDescriptor x.desc = some sig → argsL.length = sig.parameters.length)
    (hstack : g.stack = argsL.reverse ++ .ref b :: rest) (hW : 2 * g.monitorRoom + (rest.map fun v => v.category).sum ≤ W) (hdg : decode c.code g.pc = .ok (.invokeinterface index count, 5))
    (hpre : ∀ vm₁, s.WarmedH vm₁ → Pre ⟨T.setVm vm₁, locs, cells, slots⟩ (Value.ref b :: argsL).toArray) :
    (∃ (v : Option Value) (vm₁ : Vm) (B : Pt), s.WarmedH vm₁ ∧ Stand p l e R s m args below meth c B.U B.locs B.cells B.slots ∧ Post ⟨T.setVm vm₁, locs, cells, slots⟩ (Value.ref b :: argsL).toArray v B ∧
      ∀ target, Steps p.tables e below (B.U.setTop { g with pc := g.pc + 5, stack := v.toList ++ rest }) target → Steps p.tables e below (T.setTop g) target) ∨
    (∃ (q : Addr) (vm₁ : Vm) (B : Pt), s.WarmedH vm₁ ∧ Stand p l e R s m args below meth c B.U B.locs B.cells B.slots ∧ PostX ⟨T.setVm vm₁, locs, cells, slots⟩ (Value.ref b :: argsL).toArray q B ∧
      Steps p.tables e below (T.setTop g) ((B.U.setTop { g with stack := rest }).pushFrame (.throwing q))) := by
  obtain ⟨r0, r, hn, hrm, hstR, hsigR⟩ := Cond.declares_spec hdecl
  obtain ⟨cL, kL, r1, hcL, hkL, hiL, hfoundL, hn1⟩ := Cond.interfaceMethod_spec hface
  cases hn.symm.trans hn1
  have hr0cls : r0.cls = cL := Option.some.inj ((findClass_of_methodNamed hn).symm.trans hcL)
  obtain ⟨hnameR, hdescR⟩ := name_of_methodNamed hn hrm
  obtain ⟨mk, methM, hnamed, hmethM, -, habM⟩ := Cond.instanceMethod_spec hinst
  obtain ⟨c2, r2, m2, q1, q2, q3, q4, -⟩ := Cond.selects_spec hsel
  cases hcls.symm.trans q1
  cases hfoundL.symm.trans q2
  cases hnamed.symm.trans q3
  have hselP : selectMethod e.platform s.vm cellB.cls r0 = .method mk := by rw [Launch.admits_selectMethod X.admits]; exact q4
  have hpubM : hasFlag methM.accessFlags Acc.public_ = true := Cond.publicMethod_spec hnamed hmethM hpub
  have hway : ((cellB.cls :: s.vm.superclasses cellB.cls).any fun k => (declaredIn s.vm r.name r.desc k).any fun (_, z) => z.isPrivate || z.isStatic) = false := by
    rw [hnameR, hdescR]; exact Cond.unhidden_spec hcls hunh
  obtain ⟨c3, t3, w1, w2, w3⟩ := Cond.castable_spec hcast
  cases hcls.symm.trans w1
  cases hcL.symm.trans w2
  obtain ⟨vm₁, X₁, hstep₁⟩ := X.invokeinterface hexec hown hlink hn hrm hstR (by rw [hr0cls]; exact hkL) hiL hx (a := b) (cell := cellB) (kcell := kB) hcell
    (fun z h => by rw [h] at hobj; cases hobj) hkB (by rw [hr0cls]; exact w3) hselP hmethM hway hpubM habM (g := g) hg (argsL := argsL) (rest := rest) (hlen _ hsigR) hstack hdg
  rcases hK m meth c ⟨T.setVm vm₁, locs, cells, slots⟩ { g with stack := rest } (.invokeinterface index count) mk (Value.ref b :: argsL).toArray X₁ hg hsize hdg hW (X₁.named hnamed) (hpre vm₁ X₁.warmed) with ⟨v, B, X', hpost, hsteps⟩ | ⟨q, B, X', hpost, hsteps⟩
  · exact Or.inl ⟨v, vm₁, B, X₁.warmed, X', hpost, fun target h => hstep₁ _ fun acts => by rw [doInvoke_state]; exact hsteps.trans h⟩
  · exact Or.inr ⟨q, vm₁, B, X₁.warmed, X', hpost, hstep₁ _ fun acts => by rw [doInvoke_state]; exact hsteps⟩
theorem vx_runFW {x y : MethodName} {bytes cc : ByteArray} {maxL nL mc ms n index count : Nat} {ret : Option FieldType} {hh : List (Nat × Nat × Nat × Nat)} {ws : List Cond} {rm : Room} {Pc : Array Value → State → Prop} {Qc : Array Value → State → Outcome → State → Prop} {XC : String → State → State → Prop} {free : Addr → Prop} {Ts : List Cond} {own C : String} {cC : ClassId} {b : Addr} {As rest : List Value} {g : JFrame}
    (hat : ClassAt s C cC) (S : CallFix p m c cc nL s args Ts own) (hM : vx_Met l y ws rm Pc Qc XC mc ms free) (cw : va_CIW R s args own C index x y bytes maxL ret hh ws rm mc ms n) (hp : PreV s H C b Pc As)
    (hg : g.method = m) (hn : As.length = n) (hsize : g.locals.size = nL) (hstack : g.stack = As.reverse ++ .ref b :: rest) (hW : 2 * g.monitorRoom + (rest.map fun v => v.category).sum ≤ 8) (hdg : decode cc g.pc = .ok (.invokeinterface index count, 5)) (hf : cells + mc ≤ R.cells ∧ slots + ms ≤ R.slots) :
    vx_Run5 p l e R s m args below meth c H locs cells slots mc ms g rest (Qc (Value.ref b :: As).toArray) XC free := by
  obtain ⟨hrc, hrs, hfr, hlo, hws, hcw⟩ := cw.back
  have hini := cw.init
  have hK : vx_Back l R p e below s args y 5 8 (PreOf R mc ms Pc) (PostOf Qc mc ms free) (vx_Post XC mc ms free) := vx_backW (hh := hh) (bytes := bytes) (maxL := maxL) (ret := ret) hM hp.1 hrc hrs hfr hlo hws hcw (fun a' U hW => word_at hW (Or.inl (by first | rfl | simp [Cond.onTables, Cond.keeps, Cond.steady])) hini)
  obtain ⟨hx, hb, hml, ho, -⟩ := S
  obtain ⟨-, ⟨cellB, hcB, hoB, hclB⟩, hPc⟩ := hp
  obtain ⟨hfc, kB, hkB, -⟩ := hat
  cases hfc.symm.trans hclB
  intro T hT X
  rcases vx_callIFW X hx (C := C) (hh := hh) (bytes := bytes) (maxL := maxL) (ret := ret) ho cw.link cw.decl cw.face cw.sel cw.inst cw.pub cw.unh cw.cast cw.code cw.notMH hK (by rw [hT]; exact hcB) hoB hclB hkB hg (hsize.trans hml.symm) (argsL := As) (rest := rest) (fun sig h => hn.trans (cw.len sig h)) hstack hW (by rw [hb]; exact hdg)
    (fun vm₁ hW₁ => ⟨hf.1, hf.2, hPc (T.setVm vm₁) hT hW₁⟩) with ⟨v, vm₁, ⟨U', l2, c2, s2⟩, hW₁, X', ⟨g', mk, t, L, e1, e2, hq, h1, hL, h2, h3⟩, st⟩ | ⟨q, vm₁, ⟨U', l2, c2, s2⟩, hW₁, X', ⟨g', mk, t, L, E, ce, e1, e2, hq, hce, hcv, hcl, h1, hL, h2, h3⟩, st⟩
  · dsimp only [Pt.U, Pt.locs, Pt.cells, Pt.slots] at X' e1 e2 h1 h2 h3 st
    subst h1; subst h2; subst h3
    exact Or.inl ⟨v, (T.setVm vm₁).calling g' mk (Value.ref b :: As).toArray, t, U', L, hT, X', hL, e1, e2, hq, st⟩
  · dsimp only [Pt.U, Pt.locs, Pt.cells, Pt.slots] at X' e1 e2 h1 h2 h3 st hcl
    subst h1; subst h2; subst h3
    exact Or.inr ⟨q, (T.setVm vm₁).calling g' mk (Value.ref b :: As).toArray, t, U', L, E, ce, hT, X', hL, e1, e2, hq, hce, hcv, vx_cls hW₁ hcl, st⟩
end
/-! ===== END ===== -/
/-! ===== BEGIN .. of methods that hand back an object of the pool ===== -/
section
variable {p : Program} {l : Launch} {e : Env} {R : Room} {s : State} {m : MethodId} {args : Array Value} {below : List Frame} {meth : Method} {c : Code} {H : Heap} {locs : List Loc} {cells slots : Nat} {Q : State → Prop}
variable {mc ms : Nat} {free : Addr → Prop} {A0 A1 : Nat → Prop} {H0 : Heap} {a : Array Value} {pc : Nat} {ls : Array Slot} {st0 rest : List Value}
theorem vx_callq {S SX : Type} {post : Option Nat → S → Prop} {px : SX → Prop} {B : S → State → Prop} {BX : String → SX → State → Prop} {AX : Nat → Prop} (hr : vx_Run p l e R s m args below meth c H locs cells slots mc ms (F0 m pc ls st0) rest (va_Qq post B A1 a) (vx_X px BX AX) free) (hS : va_S A0 H0 H locs) (hA : ∀ q, q < H.size → A1 q → A0 q) (hf : ∀ q, free q → A0 q) (hAX : ∀ q, q < H.size → AX q → A0 q)
    (kx : ∀ (E : String) (ce : Cell) (q9 : Addr) (u : SX) (t : State) (H1 : Heap) (locs1 : List Loc), t.heap = H1 → s.vm.Alike t.vm → px u → BX E u t → H.size ≤ H1.size → (∀ q : Nat, q < H.size → ¬ AX q → H1[q]? = H[q]?) → va_S A0 H0 H1 locs1 → H1[q9]? = some ce → ce.vm = .none → s.vm.findClass E = some ce.cls → vx_W p l e R s m args below meth c H1 locs1 (cells + mc) (slots + ms) Q (F0 m pc ls rest) q9)
    (kk : ∀ (r : Option Nat) (u : S) (t : State) (H1 : Heap) (locs1 : List Loc), t.heap = H1 → s.vm.Alike t.vm → post r u → B u t → H.size ≤ H1.size → (∀ q : Nat, q < H.size → ¬ A1 q → H1[q]? = H[q]?) → va_S A0 H0 H1 locs1 → W p l e R s m args below meth c H1 locs1 (cells + mc) (slots + ms) Q (F0 m (pc + 3) ls (va_rf r :: rest))) : W p l e R s m args below meth c H locs cells slots Q (F0 m pc ls st0) := by
  intro T hT X
  rcases hr T hT X with ⟨v, st₀, t, T', L, h0, X', hL, e1, e2, ⟨⟨r, u, hv, hp, hb⟩, hF⟩, st⟩ | ⟨q, st₀, t, T', L, E, ce, h0, X', hL, e1, e2, ⟨u, hp, hb, hF⟩, hce, hcv, hcl, st⟩
  · cases hv
    obtain ⟨k1, k2, k3⟩ := vx_keep h0 e1 hS hA hf hL hF
    obtain ⟨t2, a1, b1⟩ := kk r u t T'.heap (locs ++ L) e1.symm (by rw [← e2]; exact X'.warmed.alike) hp hb k1 k2 k3 T' rfl X'
    exact ⟨t2, st t2 a1, b1⟩
  · obtain ⟨k1, k2, k3⟩ := vx_keep h0 e1 hS hAX hf hL hF
    obtain ⟨t2, a1, b1⟩ := kx E ce q u t T'.heap (locs ++ L) e1.symm (by rw [← e2]; exact X'.warmed.alike) hp hb k1 k2 k3 (by rw [e1]; exact hce) hcv hcl T' rfl X'
    exact ⟨t2, st.trans a1, b1⟩
end
/-! ===== END ===== -/
/-! ===== BEGIN .. a constant ===== -/
section
variable {p : Program} {l : Launch} {e : Env} {R : Room} {s : State} {m : MethodId} {args : Array Value} {below : List Frame} {meth : Method} {c : Code} {H : Heap} {locs : List Loc} {cells slots : Nat} {Q : State → Prop}
variable {mc ms : Nat} {free : Addr → Prop} {A0 A1 : Nat → Prop} {H0 : Heap} {a : Array Value} {pc : Nat} {ls : Array Slot} {st0 rest : List Value}
theorem vx_calle {ad : Nat → Nat} {S SX : Type} {post : Option Nat → S → Prop} {px : SX → Prop} {B : S → State → Prop} {BX : String → SX → State → Prop} {AX : Nat → Prop} (hr : vx_Run p l e R s m args below meth c H locs cells slots mc ms (F0 m pc ls st0) rest (va_Qe ad post B A1 a) (vx_X px BX AX) free) (hS : va_S A0 H0 H locs) (hA : ∀ q, q < H.size → A1 q → A0 q) (hf : ∀ q, free q → A0 q) (hAX : ∀ q, q < H.size → AX q → A0 q)
    (kx : ∀ (E : String) (ce : Cell) (q9 : Addr) (u : SX) (t : State) (H1 : Heap) (locs1 : List Loc), t.heap = H1 → s.vm.Alike t.vm → px u → BX E u t → H.size ≤ H1.size → (∀ q : Nat, q < H.size → ¬ AX q → H1[q]? = H[q]?) → va_S A0 H0 H1 locs1 → H1[q9]? = some ce → ce.vm = .none → s.vm.findClass E = some ce.cls → vx_W p l e R s m args below meth c H1 locs1 (cells + mc) (slots + ms) Q (F0 m pc ls rest) q9)
    (kk : ∀ (r : Option Nat) (u : S) (t : State) (H1 : Heap) (locs1 : List Loc), t.heap = H1 → s.vm.Alike t.vm → post r u → B u t → H.size ≤ H1.size → (∀ q : Nat, q < H.size → ¬ A1 q → H1[q]? = H[q]?) → va_S A0 H0 H1 locs1 → W p l e R s m args below meth c H1 locs1 (cells + mc) (slots + ms) Q (F0 m (pc + 3) ls (va_re ad r :: rest))) : W p l e R s m args below meth c H locs cells slots Q (F0 m pc ls st0) := by
  intro T hT X
  rcases hr T hT X with ⟨v, st₀, t, T', L, h0, X', hL, e1, e2, ⟨⟨r, u, hv, hp, hb⟩, hF⟩, st⟩ | ⟨q, st₀, t, T', L, E, ce, h0, X', hL, e1, e2, ⟨u, hp, hb, hF⟩, hce, hcv, hcl, st⟩
  · cases hv
    obtain ⟨k1, k2, k3⟩ := vx_keep h0 e1 hS hA hf hL hF
    obtain ⟨t2, a1, b1⟩ := kk r u t T'.heap (locs ++ L) e1.symm (by rw [← e2]; exact X'.warmed.alike) hp hb k1 k2 k3 T' rfl X'
    exact ⟨t2, st t2 a1, b1⟩
  · obtain ⟨k1, k2, k3⟩ := vx_keep h0 e1 hS hAX hf hL hF
    obtain ⟨t2, a1, b1⟩ := kx E ce q u t T'.heap (locs ++ L) e1.symm (by rw [← e2]; exact X'.warmed.alike) hp hb k1 k2 k3 (by rw [e1]; exact hce) hcv hcl T' rfl X'
    exact ⟨t2, st.trans a1, b1⟩
end
/-! ===== END ===== -/
/-! ===== BEGIN .. by an interface, an object ===== -/
section
variable {p : Program} {l : Launch} {e : Env} {R : Room} {s : State} {m : MethodId} {args : Array Value} {below : List Frame} {meth : Method} {c : Code} {H : Heap} {locs : List Loc} {cells slots : Nat} {Q : State → Prop}
variable {mc ms : Nat} {free : Addr → Prop} {A0 A1 : Nat → Prop} {H0 : Heap} {a : Array Value} {pc : Nat} {ls : Array Slot} {st0 rest : List Value}
theorem vx_callFq {S SX : Type} {post : Option Nat → S → Prop} {px : SX → Prop} {B : S → State → Prop} {BX : String → SX → State → Prop} {AX : Nat → Prop} (hr : vx_Run5 p l e R s m args below meth c H locs cells slots mc ms (F0 m pc ls st0) rest (va_Qq post B A1 a) (vx_X px BX AX) free) (hS : va_S A0 H0 H locs) (hA : ∀ q, q < H.size → A1 q → A0 q) (hf : ∀ q, free q → A0 q) (hAX : ∀ q, q < H.size → AX q → A0 q)
    (kx : ∀ (E : String) (ce : Cell) (q9 : Addr) (u : SX) (t : State) (H1 : Heap) (locs1 : List Loc), t.heap = H1 → s.vm.Alike t.vm → px u → BX E u t → H.size ≤ H1.size → (∀ q : Nat, q < H.size → ¬ AX q → H1[q]? = H[q]?) → va_S A0 H0 H1 locs1 → H1[q9]? = some ce → ce.vm = .none → s.vm.findClass E = some ce.cls → vx_W p l e R s m args below meth c H1 locs1 (cells + mc) (slots + ms) Q (F0 m pc ls rest) q9)
    (kk : ∀ (r : Option Nat) (u : S) (t : State) (H1 : Heap) (locs1 : List Loc), t.heap = H1 → s.vm.Alike t.vm → post r u → B u t → H.size ≤ H1.size → (∀ q : Nat, q < H.size → ¬ A1 q → H1[q]? = H[q]?) → va_S A0 H0 H1 locs1 → W p l e R s m args below meth c H1 locs1 (cells + mc) (slots + ms) Q (F0 m (pc + 5) ls (va_rf r :: rest))) : W p l e R s m args below meth c H locs cells slots Q (F0 m pc ls st0) := by
  intro T hT X
  rcases hr T hT X with ⟨v, st₀, t, T', L, h0, X', hL, e1, e2, ⟨⟨r, u, hv, hp, hb⟩, hF⟩, st⟩ | ⟨q, st₀, t, T', L, E, ce, h0, X', hL, e1, e2, ⟨u, hp, hb, hF⟩, hce, hcv, hcl, st⟩
  · cases hv
    obtain ⟨k1, k2, k3⟩ := vx_keep h0 e1 hS hA hf hL hF
    obtain ⟨t2, a1, b1⟩ := kk r u t T'.heap (locs ++ L) e1.symm (by rw [← e2]; exact X'.warmed.alike) hp hb k1 k2 k3 T' rfl X'
    exact ⟨t2, st t2 a1, b1⟩
  · obtain ⟨k1, k2, k3⟩ := vx_keep h0 e1 hS hAX hf hL hF
    obtain ⟨t2, a1, b1⟩ := kx E ce q u t T'.heap (locs ++ L) e1.symm (by rw [← e2]; exact X'.warmed.alike) hp hb k1 k2 k3 (by rw [e1]; exact hce) hcv hcl T' rfl X'
    exact ⟨t2, st.trans a1, b1⟩
end
/-! ===== END ===== -/
/-! ===== BEGIN .. by an interface, a constant ===== -/
section
variable {p : Program} {l : Launch} {e : Env} {R : Room} {s : State} {m : MethodId} {args : Array Value} {below : List Frame} {meth : Method} {c : Code} {H : Heap} {locs : List Loc} {cells slots : Nat} {Q : State → Prop}
variable {mc ms : Nat} {free : Addr → Prop} {A0 A1 : Nat → Prop} {H0 : Heap} {a : Array Value} {pc : Nat} {ls : Array Slot} {st0 rest : List Value}
theorem vx_callFe {ad : Nat → Nat} {S SX : Type} {post : Option Nat → S → Prop} {px : SX → Prop} {B : S → State → Prop} {BX : String → SX → State → Prop} {AX : Nat → Prop} (hr : vx_Run5 p l e R s m args below meth c H locs cells slots mc ms (F0 m pc ls st0) rest (va_Qe ad post B A1 a) (vx_X px BX AX) free) (hS : va_S A0 H0 H locs) (hA : ∀ q, q < H.size → A1 q → A0 q) (hf : ∀ q, free q → A0 q) (hAX : ∀ q, q < H.size → AX q → A0 q)
    (kx : ∀ (E : String) (ce : Cell) (q9 : Addr) (u : SX) (t : State) (H1 : Heap) (locs1 : List Loc), t.heap = H1 → s.vm.Alike t.vm → px u → BX E u t → H.size ≤ H1.size → (∀ q : Nat, q < H.size → ¬ AX q → H1[q]? = H[q]?) → va_S A0 H0 H1 locs1 → H1[q9]? = some ce → ce.vm = .none → s.vm.findClass E = some ce.cls → vx_W p l e R s m args below meth c H1 locs1 (cells + mc) (slots + ms) Q (F0 m pc ls rest) q9)
    (kk : ∀ (r : Option Nat) (u : S) (t : State) (H1 : Heap) (locs1 : List Loc), t.heap = H1 → s.vm.Alike t.vm → post r u → B u t → H.size ≤ H1.size → (∀ q : Nat, q < H.size → ¬ A1 q → H1[q]? = H[q]?) → va_S A0 H0 H1 locs1 → W p l e R s m args below meth c H1 locs1 (cells + mc) (slots + ms) Q (F0 m (pc + 5) ls (va_re ad r :: rest))) : W p l e R s m args below meth c H locs cells slots Q (F0 m pc ls st0) := by
  intro T hT X
  rcases hr T hT X with ⟨v, st₀, t, T', L, h0, X', hL, e1, e2, ⟨⟨r, u, hv, hp, hb⟩, hF⟩, st⟩ | ⟨q, st₀, t, T', L, E, ce, h0, X', hL, e1, e2, ⟨u, hp, hb, hF⟩, hce, hcv, hcl, st⟩
  · cases hv
    obtain ⟨k1, k2, k3⟩ := vx_keep h0 e1 hS hA hf hL hF
    obtain ⟨t2, a1, b1⟩ := kk r u t T'.heap (locs ++ L) e1.symm (by rw [← e2]; exact X'.warmed.alike) hp hb k1 k2 k3 T' rfl X'
    exact ⟨t2, st t2 a1, b1⟩
  · obtain ⟨k1, k2, k3⟩ := vx_keep h0 e1 hS hAX hf hL hF
    obtain ⟨t2, a1, b1⟩ := kx E ce q u t T'.heap (locs ++ L) e1.symm (by rw [← e2]; exact X'.warmed.alike) hp hb k1 k2 k3 (by rw [e1]; exact hce) hcv hcl T' rfl X'
    exact ⟨t2, st.trans a1, b1⟩
end
/-! ===== END ===== -/
/-! ===== BEGIN what the machine throws by itself: null at a field, at athrow ===== -/
section VXM2
variable {p : Program} {l : Launch} {e : Env} {R : Room} {s : State} {m : MethodId} {args : Array Value} {below : List Frame} {meth : Method} {c : Code} {H : Heap} {locs : List Loc} {cells slots : Nat}
variable {Q : State → Prop} {cc : ByteArray} {pc : Nat} {ls : Array Slot} {rest : List Value}
theorem vx_getfN {D cl tys} {own ref C : String} {T : u_T} {N ci index : Nat} {Ts : List Cond} (hexec : p.tables.exec = Jvm.exec) (hb : c.code = cc) (hts : ∀ w ∈ Ts, w.before args s = true) (hin : ∀ w ∈ u_ws C T N, w ∈ Ts) (hown : s.vm.findClass own = some m.cls) (hK : va_K D cl tys s) (hc : cl[ci]? = some (C, T, N)) (k : Nat) (hk : k < N) (hlink : (Cond.fieldLink own index ref (T k).2.1 (T k).2.2.1).before args s = true) (hsame : ∀ x, s.fieldFound? (T k).1 (T k).2.1 (T k).2.2.1 = some x → s.fieldFound? ref (T k).2.1 (T k).2.2.1 = some x) (hdg : decode cc pc = .ok (.getfield index, 3)) (kk : vx_NoteN p l e R s m args below meth c H locs cells slots Q (F0 m pc ls rest)) : W p l e R s m args below meth c H locs cells slots Q (F0 m pc ls (.null :: rest)) := by
  obtain ⟨hS, hfc, kC, hkC, -⟩ := hK.1 ci _ hc
  obtain ⟨cf, kf, fi, f, hi, -⟩ := hS k hk
  intro U hU X
  obtain ⟨vm', X1, st1⟩ := X.getfieldNull hexec hown hlink (hsame _ hi) (u_facts hfc hkC (u_lays hts hin hk) hi).1 (g := F0 m pc ls (.null :: rest)) rfl (rest := rest) rfl (by rw [hb]; exact hdg)
  obtain ⟨t, st, q⟩ := kk (U.setVm vm') hU X1
  exact ⟨t, st1 t st, q⟩
theorem vx_getfNN {D cl tys} {own ref C host : String} {T : u_T} {N ci index : Nat} {Ts : List Cond} (hexec : p.tables.exec = Jvm.exec) (hb : c.code = cc) (hts : ∀ w ∈ Ts, w.before args s = true) (hin : ∀ w ∈ u_ws C T N, w ∈ Ts) (hown : s.vm.findClass own = some m.cls) (hK : va_K D cl tys s) (hc : cl[ci]? = some (C, T, N)) (k : Nat) (hk : k < N) (hlink : (Cond.fieldLinkNest own index ref (T k).2.1 (T k).2.2.1 host).before args s = true) (hsame : ∀ x, s.fieldFound? (T k).1 (T k).2.1 (T k).2.2.1 = some x → s.fieldFound? ref (T k).2.1 (T k).2.2.1 = some x) (hdg : decode cc pc = .ok (.getfield index, 3)) (kk : vx_NoteN p l e R s m args below meth c H locs cells slots Q (F0 m pc ls rest)) : W p l e R s m args below meth c H locs cells slots Q (F0 m pc ls (.null :: rest)) := by
  obtain ⟨hS, hfc, kC, hkC, -⟩ := hK.1 ci _ hc
  obtain ⟨cf, kf, fi, f, hi, -⟩ := hS k hk
  intro U hU X
  obtain ⟨vm', X1, st1⟩ := X.getfieldNullNest hexec hown hlink (hsame _ hi) (u_facts hfc hkC (u_lays hts hin hk) hi).1 (g := F0 m pc ls (.null :: rest)) rfl (rest := rest) rfl (by rw [hb]; exact hdg)
  obtain ⟨t, st, q⟩ := kk (U.setVm vm') hU X1
  exact ⟨t, st1 t st, q⟩
theorem vx_putfN {D cl tys} {own ref C : String} {T : u_T} {N ci index : Nat} {Ts : List Cond} (hexec : p.tables.exec = Jvm.exec) (hb : c.code = cc) (hts : ∀ w ∈ Ts, w.before args s = true) (hin : ∀ w ∈ u_ws C T N, w ∈ Ts) (hown : s.vm.findClass own = some m.cls) (hK : va_K D cl tys s) (hc : cl[ci]? = some (C, T, N)) (k : Nat) (hk : k < N) (hlink : (Cond.fieldLink own index ref (T k).2.1 (T k).2.2.1).before args s = true) (hsame : ∀ x, s.fieldFound? (T k).1 (T k).2.1 (T k).2.2.1 = some x → s.fieldFound? ref (T k).2.1 (T k).2.2.1 = some x) (hfin : (T k).2.2.2 = false) {v : Value} (hdg : decode cc pc = .ok (.putfield index, 3)) (kk : vx_NoteN p l e R s m args below meth c H locs cells slots Q (F0 m pc ls rest)) : W p l e R s m args below meth c H locs cells slots Q (F0 m pc ls (v :: .null :: rest)) := by
  obtain ⟨hS, hfc, kC, hkC, -⟩ := hK.1 ci _ hc
  obtain ⟨cf, kf, fi, f, hi, -⟩ := hS k hk
  have hlay := hts _ (hin _ (u_in_lay hk))
  unfold u_lay at hlay
  rw [if_neg (by rw [hfin]; decide)] at hlay
  obtain ⟨c9, k9, cf9, kf9, fi9, f9, -, -, hi9, hst9, hnf9, -⟩ := Cond.lays_spec hlay
  cases hi.symm.trans hi9
  intro U hU X
  obtain ⟨vm', X1, st1⟩ := X.putfieldNull hexec hown hlink (hsame _ hi) hst9 hnf9 (g := F0 m pc ls (v :: .null :: rest)) rfl (v := v) (rest := rest) rfl (by rw [hb]; exact hdg)
  obtain ⟨t, st, q⟩ := kk (U.setVm vm') hU X1
  exact ⟨t, st1 t st, q⟩
theorem vx_putfNN {D cl tys} {own ref C host : String} {T : u_T} {N ci index : Nat} {Ts : List Cond} (hexec : p.tables.exec = Jvm.exec) (hb : c.code = cc) (hts : ∀ w ∈ Ts, w.before args s = true) (hin : ∀ w ∈ u_ws C T N, w ∈ Ts) (hown : s.vm.findClass own = some m.cls) (hK : va_K D cl tys s) (hc : cl[ci]? = some (C, T, N)) (k : Nat) (hk : k < N) (hlink : (Cond.fieldLinkNest own index ref (T k).2.1 (T k).2.2.1 host).before args s = true) (hsame : ∀ x, s.fieldFound? (T k).1 (T k).2.1 (T k).2.2.1 = some x → s.fieldFound? ref (T k).2.1 (T k).2.2.1 = some x) (hfin : (T k).2.2.2 = false) {v : Value} (hdg : decode cc pc = .ok (.putfield index, 3)) (kk : vx_NoteN p l e R s m args below meth c H locs cells slots Q (F0 m pc ls rest)) : W p l e R s m args below meth c H locs cells slots Q (F0 m pc ls (v :: .null :: rest)) := by
  obtain ⟨hS, hfc, kC, hkC, -⟩ := hK.1 ci _ hc
  obtain ⟨cf, kf, fi, f, hi, -⟩ := hS k hk
  have hlay := hts _ (hin _ (u_in_lay hk))
  unfold u_lay at hlay
  rw [if_neg (by rw [hfin]; decide)] at hlay
  obtain ⟨c9, k9, cf9, kf9, fi9, f9, -, -, hi9, hst9, hnf9, -⟩ := Cond.lays_spec hlay
  cases hi.symm.trans hi9
  intro U hU X
  obtain ⟨vm', X1, st1⟩ := X.putfieldNullNest hexec hown hlink (hsame _ hi) hst9 hnf9 (g := F0 m pc ls (v :: .null :: rest)) rfl (v := v) (rest := rest) rfl (by rw [hb]; exact hdg)
  obtain ⟨t, st, q⟩ := kk (U.setVm vm') hU X1
  exact ⟨t, st1 t st, q⟩
theorem vx_athrowN (hexec : p.tables.exec = Jvm.exec) (hb : c.code = cc) (hdg : decode cc pc = .ok (.athrow, 1)) (k : vx_NoteN p l e R s m args below meth c H locs cells slots Q (F0 m pc ls rest)) : W p l e R s m args below meth c H locs cells slots Q (F0 m pc ls (.null :: rest)) := by
  intro T hT X
  obtain ⟨t, st, q⟩ := k T hT X
  exact ⟨t, X.athrowNull hexec (g := F0 m pc ls (.null :: rest)) rfl (rest := rest) rfl (by rw [hb]; exact hdg) t st, q⟩
end VXM2
/-! ===== END ===== -/
end
section
-- ===== PART A: goes FIRST, ahead of the names: the tables' words, and 'selects' of the private methods out of them =====
/-- a private method of a class that the tables say can be made, by its rows of tables_1 -/
def lw_okq (q : MethodName × Nat) : Prop := (q.1.cls ≠ "java/lang/invoke/MethodHandle" ∧ q.1.cls ≠ "java/lang/invoke/VarHandle") ∧ Cond.instantiable q.1.cls q.2 ∈ tables_1 ∧ Cond.privateMethod q.1 ∈ tables_1 ∧ Cond.instanceMethod q.1 ∈ tables_1
theorem lw_p0 : lw_okq (⟨"TimberHouse", "makeAnew", "(IIII)I"⟩, 14) := ⟨⟨by decide +kernel, by decide +kernel⟩, List.mem_of_getElem? (i := 38) (by decide +kernel), List.mem_of_getElem? (i := 815) (by decide +kernel), List.mem_of_getElem? (i := 816) (by decide +kernel)⟩
theorem lw_p1 : lw_okq (⟨"TimberHouse$Fingers", "pieceFault", "(II)I"⟩, 20) := ⟨⟨by decide +kernel, by decide +kernel⟩, List.mem_of_getElem? (i := 211) (by decide +kernel), List.mem_of_getElem? (i := 856) (by decide +kernel), List.mem_of_getElem? (i := 857) (by decide +kernel)⟩
theorem lw_p2 : lw_okq (⟨"TimberHouse$Sheets", "sum", "(I)I"⟩, 19) := ⟨⟨by decide +kernel, by decide +kernel⟩, List.mem_of_getElem? (i := 422) (by decide +kernel), List.mem_of_getElem? (i := 875) (by decide +kernel), List.mem_of_getElem? (i := 876) (by decide +kernel)⟩
theorem lw_p3 : lw_okq (⟨"TimberHouse", "addWork", "(IIJ)I"⟩, 14) := ⟨⟨by decide +kernel, by decide +kernel⟩, List.mem_of_getElem? (i := 38) (by decide +kernel), List.mem_of_getElem? (i := 881) (by decide +kernel), List.mem_of_getElem? (i := 882) (by decide +kernel)⟩
theorem lw_p4 : lw_okq (⟨"TimberHouse$Plans", "stepFault", "(IIII)I"⟩, 19) := ⟨⟨by decide +kernel, by decide +kernel⟩, List.mem_of_getElem? (i := 551) (by decide +kernel), List.mem_of_getElem? (i := 894) (by decide +kernel), List.mem_of_getElem? (i := 895) (by decide +kernel)⟩
theorem lw_p5 : lw_okq (⟨"TimberHouse$Plans", "isJob", "(I)Z"⟩, 19) := ⟨⟨by decide +kernel, by decide +kernel⟩, List.mem_of_getElem? (i := 551) (by decide +kernel), List.mem_of_getElem? (i := 898) (by decide +kernel), List.mem_of_getElem? (i := 899) (by decide +kernel)⟩
theorem lw_p6 : lw_okq (⟨"TimberHouse$Turned", "isPiece", "(I)Z"⟩, 17) := ⟨⟨by decide +kernel, by decide +kernel⟩, List.mem_of_getElem? (i := 291) (by decide +kernel), List.mem_of_getElem? (i := 911) (by decide +kernel), List.mem_of_getElem? (i := 912) (by decide +kernel)⟩
theorem lw_p7 : lw_okq (⟨"TimberHouse$Turned", "reach", "(II)V"⟩, 17) := ⟨⟨by decide +kernel, by decide +kernel⟩, List.mem_of_getElem? (i := 291) (by decide +kernel), List.mem_of_getElem? (i := 921) (by decide +kernel), List.mem_of_getElem? (i := 922) (by decide +kernel)⟩
theorem lw_p8 : lw_okq (⟨"TimberHouse$Turned", "blank", "(I)I"⟩, 17) := ⟨⟨by decide +kernel, by decide +kernel⟩, List.mem_of_getElem? (i := 291) (by decide +kernel), List.mem_of_getElem? (i := 933) (by decide +kernel), List.mem_of_getElem? (i := 934) (by decide +kernel)⟩
theorem lw_p9 : lw_okq (⟨"TimberHouse", "tellFact", "(IZJI)I"⟩, 14) := ⟨⟨by decide +kernel, by decide +kernel⟩, List.mem_of_getElem? (i := 38) (by decide +kernel), List.mem_of_getElem? (i := 1041) (by decide +kernel), List.mem_of_getElem? (i := 1042) (by decide +kernel)⟩
theorem lw_p10 : lw_okq (⟨"TimberHouse$Rips", "trueWorth", "(I)J"⟩, 22) := ⟨⟨by decide +kernel, by decide +kernel⟩, List.mem_of_getElem? (i := 108) (by decide +kernel), List.mem_of_getElem? (i := 1075) (by decide +kernel), List.mem_of_getElem? (i := 1076) (by decide +kernel)⟩
theorem lw_p11 : lw_okq (⟨"TimberHouse$Saw", "boardWorth", "(I)I"⟩, 17) := ⟨⟨by decide +kernel, by decide +kernel⟩, List.mem_of_getElem? (i := 46) (by decide +kernel), List.mem_of_getElem? (i := 1087) (by decide +kernel), List.mem_of_getElem? (i := 1088) (by decide +kernel)⟩
theorem lw_p12 : lw_okq (⟨"TimberHouse$Saw", "alongY", "(II)I"⟩, 17) := ⟨⟨by decide +kernel, by decide +kernel⟩, List.mem_of_getElem? (i := 46) (by decide +kernel), List.mem_of_getElem? (i := 1091) (by decide +kernel), List.mem_of_getElem? (i := 1092) (by decide +kernel)⟩
theorem lw_p13 : lw_okq (⟨"TimberHouse$Saw", "alongX", "(II)I"⟩, 17) := ⟨⟨by decide +kernel, by decide +kernel⟩, List.mem_of_getElem? (i := 46) (by decide +kernel), List.mem_of_getElem? (i := 1095) (by decide +kernel), List.mem_of_getElem? (i := 1096) (by decide +kernel)⟩
theorem lw_p14 : lw_okq (⟨"TimberHouse$Prices", "isOffer", "(I)Z"⟩, 21) := ⟨⟨by decide +kernel, by decide +kernel⟩, List.mem_of_getElem? (i := 620) (by decide +kernel), List.mem_of_getElem? (i := 1107) (by decide +kernel), List.mem_of_getElem? (i := 1108) (by decide +kernel)⟩
theorem lw_p15 : lw_okq (⟨"TimberHouse$Shop", "entryFault", "(I)I"⟩, 13) := ⟨⟨by decide +kernel, by decide +kernel⟩, List.mem_of_getElem? (i := 703) (by decide +kernel), List.mem_of_getElem? (i := 1121) (by decide +kernel), List.mem_of_getElem? (i := 1122) (by decide +kernel)⟩
def lw_privs_1 : List (MethodName × Nat) := [(⟨"TimberHouse", "makeAnew", "(IIII)I"⟩, 14), (⟨"TimberHouse$Fingers", "pieceFault", "(II)I"⟩, 20), (⟨"TimberHouse$Sheets", "sum", "(I)I"⟩, 19), (⟨"TimberHouse", "addWork", "(IIJ)I"⟩, 14), (⟨"TimberHouse$Plans", "stepFault", "(IIII)I"⟩, 19), (⟨"TimberHouse$Plans", "isJob", "(I)Z"⟩, 19), (⟨"TimberHouse$Turned", "isPiece", "(I)Z"⟩, 17), (⟨"TimberHouse$Turned", "reach", "(II)V"⟩, 17), (⟨"TimberHouse$Turned", "blank", "(I)I"⟩, 17), (⟨"TimberHouse", "tellFact", "(IZJI)I"⟩, 14), (⟨"TimberHouse$Rips", "trueWorth", "(I)J"⟩, 22), (⟨"TimberHouse$Saw", "boardWorth", "(I)I"⟩, 17), (⟨"TimberHouse$Saw", "alongY", "(II)I"⟩, 17), (⟨"TimberHouse$Saw", "alongX", "(II)I"⟩, 17), (⟨"TimberHouse$Prices", "isOffer", "(I)Z"⟩, 21), (⟨"TimberHouse$Shop", "entryFault", "(I)I"⟩, 13)]
theorem lw_r1 : ∀ q ∈ lw_privs_1, lw_okq q := List.forall_mem_cons.mpr ⟨lw_p0, List.forall_mem_cons.mpr ⟨lw_p1, List.forall_mem_cons.mpr ⟨lw_p2, List.forall_mem_cons.mpr ⟨lw_p3, List.forall_mem_cons.mpr ⟨lw_p4, List.forall_mem_cons.mpr ⟨lw_p5, List.forall_mem_cons.mpr ⟨lw_p6, List.forall_mem_cons.mpr ⟨lw_p7, List.forall_mem_cons.mpr ⟨lw_p8, List.forall_mem_cons.mpr ⟨lw_p9, List.forall_mem_cons.mpr ⟨lw_p10, List.forall_mem_cons.mpr ⟨lw_p11, List.forall_mem_cons.mpr ⟨lw_p12, List.forall_mem_cons.mpr ⟨lw_p13, List.forall_mem_cons.mpr ⟨lw_p14, List.forall_mem_cons.mpr ⟨lw_p15, fun _ h => absurd h List.not_mem_nil⟩⟩⟩⟩⟩⟩⟩⟩⟩⟩⟩⟩⟩⟩⟩⟩
theorem lw_p16 : lw_okq (⟨"TimberHouse$Shop", "isEntry", "(I)Z"⟩, 13) := ⟨⟨by decide +kernel, by decide +kernel⟩, List.mem_of_getElem? (i := 703) (by decide +kernel), List.mem_of_getElem? (i := 1130) (by decide +kernel), List.mem_of_getElem? (i := 1131) (by decide +kernel)⟩
theorem lw_p17 : lw_okq (⟨"TimberHouse$Shop", "isMonthClosed", "(I)Z"⟩, 13) := ⟨⟨by decide +kernel, by decide +kernel⟩, List.mem_of_getElem? (i := 703) (by decide +kernel), List.mem_of_getElem? (i := 1138) (by decide +kernel), List.mem_of_getElem? (i := 1139) (by decide +kernel)⟩
theorem lw_p18 : lw_okq (⟨"TimberHouse", "timesAnew", "()I"⟩, 14) := ⟨⟨by decide +kernel, by decide +kernel⟩, List.mem_of_getElem? (i := 38) (by decide +kernel), List.mem_of_getElem? (i := 1162) (by decide +kernel), List.mem_of_getElem? (i := 1163) (by decide +kernel)⟩
theorem lw_p19 : lw_okq (⟨"TimberHouse$Saw", "cell", "(IIIZ)I"⟩, 17) := ⟨⟨by decide +kernel, by decide +kernel⟩, List.mem_of_getElem? (i := 46) (by decide +kernel), List.mem_of_getElem? (i := 1181) (by decide +kernel), List.mem_of_getElem? (i := 1182) (by decide +kernel)⟩
theorem lw_p20 : lw_okq (⟨"TimberHouse$Saw", "onGrid", "(II)Z"⟩, 17) := ⟨⟨by decide +kernel, by decide +kernel⟩, List.mem_of_getElem? (i := 46) (by decide +kernel), List.mem_of_getElem? (i := 1185) (by decide +kernel), List.mem_of_getElem? (i := 1186) (by decide +kernel)⟩
theorem lw_p21 : lw_okq (⟨"java/lang/Throwable", "fillInStackTrace", "(I)Ljava/lang/Throwable;"⟩, 6) := ⟨⟨by decide +kernel, by decide +kernel⟩, List.mem_of_getElem? (i := 1230) (by decide +kernel), List.mem_of_getElem? (i := 1228) (by decide +kernel), List.mem_of_getElem? (i := 1229) (by decide +kernel)⟩
theorem lw_p22 : lw_okq (⟨"TimberHouse$Saw", "span", "(IIII)I"⟩, 17) := ⟨⟨by decide +kernel, by decide +kernel⟩, List.mem_of_getElem? (i := 46) (by decide +kernel), List.mem_of_getElem? (i := 1255) (by decide +kernel), List.mem_of_getElem? (i := 1256) (by decide +kernel)⟩
theorem lw_p23 : lw_okq (⟨"TimberHouse$Saw", "knot", "(III)I"⟩, 17) := ⟨⟨by decide +kernel, by decide +kernel⟩, List.mem_of_getElem? (i := 46) (by decide +kernel), List.mem_of_getElem? (i := 1277) (by decide +kernel), List.mem_of_getElem? (i := 1278) (by decide +kernel)⟩
theorem lw_p24 : lw_okq (⟨"TimberHouse$Saw", "size", "(IIII)I"⟩, 17) := ⟨⟨by decide +kernel, by decide +kernel⟩, List.mem_of_getElem? (i := 46) (by decide +kernel), List.mem_of_getElem? (i := 1281) (by decide +kernel), List.mem_of_getElem? (i := 1282) (by decide +kernel)⟩
theorem lw_p25 : lw_okq (⟨"TimberHouse$Saw", "run", "()I"⟩, 17) := ⟨⟨by decide +kernel, by decide +kernel⟩, List.mem_of_getElem? (i := 46) (by decide +kernel), List.mem_of_getElem? (i := 1304) (by decide +kernel), List.mem_of_getElem? (i := 1305) (by decide +kernel)⟩
theorem lw_p26 : lw_okq (⟨"TimberHouse$Saw", "solve", "(I)J"⟩, 17) := ⟨⟨by decide +kernel, by decide +kernel⟩, List.mem_of_getElem? (i := 46) (by decide +kernel), List.mem_of_getElem? (i := 1308) (by decide +kernel), List.mem_of_getElem? (i := 1309) (by decide +kernel)⟩
theorem lw_p27 : lw_okq (⟨"TimberHouse$Saw", "sumUp", "(I)V"⟩, 17) := ⟨⟨by decide +kernel, by decide +kernel⟩, List.mem_of_getElem? (i := 46) (by decide +kernel), List.mem_of_getElem? (i := 1312) (by decide +kernel), List.mem_of_getElem? (i := 1313) (by decide +kernel)⟩
theorem lw_p28 : lw_okq (⟨"TimberHouse$Saw", "isWood", "(II)Z"⟩, 17) := ⟨⟨by decide +kernel, by decide +kernel⟩, List.mem_of_getElem? (i := 46) (by decide +kernel), List.mem_of_getElem? (i := 1319) (by decide +kernel), List.mem_of_getElem? (i := 1320) (by decide +kernel)⟩
theorem lw_p29 : lw_okq (⟨"TimberHouse$Saw", "hasThickness", "(I)Z"⟩, 17) := ⟨⟨by decide +kernel, by decide +kernel⟩, List.mem_of_getElem? (i := 46) (by decide +kernel), List.mem_of_getElem? (i := 1326) (by decide +kernel), List.mem_of_getElem? (i := 1327) (by decide +kernel)⟩
theorem lw_p30 : lw_okq (⟨"TimberHouse$Saw", "solveSlab", "(II)J"⟩, 17) := ⟨⟨by decide +kernel, by decide +kernel⟩, List.mem_of_getElem? (i := 46) (by decide +kernel), List.mem_of_getElem? (i := 1330) (by decide +kernel), List.mem_of_getElem? (i := 1331) (by decide +kernel)⟩
theorem lw_p31 : lw_okq (⟨"TimberHouse$Saw", "worthAt", "(III)I"⟩, 17) := ⟨⟨by decide +kernel, by decide +kernel⟩, List.mem_of_getElem? (i := 46) (by decide +kernel), List.mem_of_getElem? (i := 1334) (by decide +kernel), List.mem_of_getElem? (i := 1335) (by decide +kernel)⟩
def lw_privs_2 : List (MethodName × Nat) := [(⟨"TimberHouse$Shop", "isEntry", "(I)Z"⟩, 13), (⟨"TimberHouse$Shop", "isMonthClosed", "(I)Z"⟩, 13), (⟨"TimberHouse", "timesAnew", "()I"⟩, 14), (⟨"TimberHouse$Saw", "cell", "(IIIZ)I"⟩, 17), (⟨"TimberHouse$Saw", "onGrid", "(II)Z"⟩, 17), (⟨"java/lang/Throwable", "fillInStackTrace", "(I)Ljava/lang/Throwable;"⟩, 6), (⟨"TimberHouse$Saw", "span", "(IIII)I"⟩, 17), (⟨"TimberHouse$Saw", "knot", "(III)I"⟩, 17), (⟨"TimberHouse$Saw", "size", "(IIII)I"⟩, 17), (⟨"TimberHouse$Saw", "run", "()I"⟩, 17), (⟨"TimberHouse$Saw", "solve", "(I)J"⟩, 17), (⟨"TimberHouse$Saw", "sumUp", "(I)V"⟩, 17), (⟨"TimberHouse$Saw", "isWood", "(II)Z"⟩, 17), (⟨"TimberHouse$Saw", "hasThickness", "(I)Z"⟩, 17), (⟨"TimberHouse$Saw", "solveSlab", "(II)J"⟩, 17), (⟨"TimberHouse$Saw", "worthAt", "(III)I"⟩, 17)]
theorem lw_r2 : ∀ q ∈ lw_privs_2, lw_okq q := List.forall_mem_cons.mpr ⟨lw_p16, List.forall_mem_cons.mpr ⟨lw_p17, List.forall_mem_cons.mpr ⟨lw_p18, List.forall_mem_cons.mpr ⟨lw_p19, List.forall_mem_cons.mpr ⟨lw_p20, List.forall_mem_cons.mpr ⟨lw_p21, List.forall_mem_cons.mpr ⟨lw_p22, List.forall_mem_cons.mpr ⟨lw_p23, List.forall_mem_cons.mpr ⟨lw_p24, List.forall_mem_cons.mpr ⟨lw_p25, List.forall_mem_cons.mpr ⟨lw_p26, List.forall_mem_cons.mpr ⟨lw_p27, List.forall_mem_cons.mpr ⟨lw_p28, List.forall_mem_cons.mpr ⟨lw_p29, List.forall_mem_cons.mpr ⟨lw_p30, List.forall_mem_cons.mpr ⟨lw_p31, fun _ h => absurd h List.not_mem_nil⟩⟩⟩⟩⟩⟩⟩⟩⟩⟩⟩⟩⟩⟩⟩⟩
theorem lw_p32 : lw_okq (⟨"TimberHouse$Saw", "lay", "()V"⟩, 17) := ⟨⟨by decide +kernel, by decide +kernel⟩, List.mem_of_getElem? (i := 46) (by decide +kernel), List.mem_of_getElem? (i := 1343) (by decide +kernel), List.mem_of_getElem? (i := 1344) (by decide +kernel)⟩
theorem lw_p33 : lw_okq (⟨"TimberHouse$Saw", "laySlab", "(I)V"⟩, 17) := ⟨⟨by decide +kernel, by decide +kernel⟩, List.mem_of_getElem? (i := 46) (by decide +kernel), List.mem_of_getElem? (i := 1347) (by decide +kernel), List.mem_of_getElem? (i := 1348) (by decide +kernel)⟩
theorem lw_p34 : lw_okq (⟨"TimberHouse$Saw", "about", "(II)J"⟩, 17) := ⟨⟨by decide +kernel, by decide +kernel⟩, List.mem_of_getElem? (i := 46) (by decide +kernel), List.mem_of_getElem? (i := 1351) (by decide +kernel), List.mem_of_getElem? (i := 1352) (by decide +kernel)⟩
theorem lw_p35 : lw_okq (⟨"TimberHouse$Saw", "lack", "(IIII)I"⟩, 17) := ⟨⟨by decide +kernel, by decide +kernel⟩, List.mem_of_getElem? (i := 46) (by decide +kernel), List.mem_of_getElem? (i := 1355) (by decide +kernel), List.mem_of_getElem? (i := 1356) (by decide +kernel)⟩
theorem lw_p36 : lw_okq (⟨"TimberHouse$Saw", "all", "(I)J"⟩, 17) := ⟨⟨by decide +kernel, by decide +kernel⟩, List.mem_of_getElem? (i := 46) (by decide +kernel), List.mem_of_getElem? (i := 1359) (by decide +kernel), List.mem_of_getElem? (i := 1360) (by decide +kernel)⟩
theorem lw_p37 : lw_okq (⟨"TimberHouse$Saw", "worth", "(I)J"⟩, 17) := ⟨⟨by decide +kernel, by decide +kernel⟩, List.mem_of_getElem? (i := 46) (by decide +kernel), List.mem_of_getElem? (i := 1364) (by decide +kernel), List.mem_of_getElem? (i := 1365) (by decide +kernel)⟩
theorem lw_p38 : lw_okq (⟨"TimberHouse$Saw", "yields", "(I)J"⟩, 17) := ⟨⟨by decide +kernel, by decide +kernel⟩, List.mem_of_getElem? (i := 46) (by decide +kernel), List.mem_of_getElem? (i := 1369) (by decide +kernel), List.mem_of_getElem? (i := 1370) (by decide +kernel)⟩
theorem lw_p39 : lw_okq (⟨"TimberHouse$Saw", "wood", "()I"⟩, 17) := ⟨⟨by decide +kernel, by decide +kernel⟩, List.mem_of_getElem? (i := 46) (by decide +kernel), List.mem_of_getElem? (i := 1373) (by decide +kernel), List.mem_of_getElem? (i := 1374) (by decide +kernel)⟩
theorem lw_p40 : lw_okq (⟨"TimberHouse$Saw", "may", "(IIII)I"⟩, 17) := ⟨⟨by decide +kernel, by decide +kernel⟩, List.mem_of_getElem? (i := 46) (by decide +kernel), List.mem_of_getElem? (i := 1383) (by decide +kernel), List.mem_of_getElem? (i := 1384) (by decide +kernel)⟩
theorem lw_p41 : lw_okq (⟨"TimberHouse$Saw", "apart", "(II)I"⟩, 17) := ⟨⟨by decide +kernel, by decide +kernel⟩, List.mem_of_getElem? (i := 46) (by decide +kernel), List.mem_of_getElem? (i := 1387) (by decide +kernel), List.mem_of_getElem? (i := 1388) (by decide +kernel)⟩
theorem lw_p42 : lw_okq (⟨"TimberHouse$Saw", "far", "(IIII)Z"⟩, 17) := ⟨⟨by decide +kernel, by decide +kernel⟩, List.mem_of_getElem? (i := 46) (by decide +kernel), List.mem_of_getElem? (i := 1391) (by decide +kernel), List.mem_of_getElem? (i := 1392) (by decide +kernel)⟩
theorem lw_p43 : lw_okq (⟨"TimberHouse$Rips", "fault", "(IIIIII)I"⟩, 22) := ⟨⟨by decide +kernel, by decide +kernel⟩, List.mem_of_getElem? (i := 108) (by decide +kernel), List.mem_of_getElem? (i := 1400) (by decide +kernel), List.mem_of_getElem? (i := 1401) (by decide +kernel)⟩
theorem lw_p44 : lw_okq (⟨"TimberHouse$Rips", "piece", "(IIII)I"⟩, 22) := ⟨⟨by decide +kernel, by decide +kernel⟩, List.mem_of_getElem? (i := 108) (by decide +kernel), List.mem_of_getElem? (i := 1408) (by decide +kernel), List.mem_of_getElem? (i := 1409) (by decide +kernel)⟩
theorem lw_p45 : lw_okq (⟨"TimberHouse$Rips", "allows", "(III)I"⟩, 22) := ⟨⟨by decide +kernel, by decide +kernel⟩, List.mem_of_getElem? (i := 108) (by decide +kernel), List.mem_of_getElem? (i := 1414) (by decide +kernel), List.mem_of_getElem? (i := 1415) (by decide +kernel)⟩
theorem lw_p46 : lw_okq (⟨"TimberHouse$Rips", "gang", "(I)I"⟩, 22) := ⟨⟨by decide +kernel, by decide +kernel⟩, List.mem_of_getElem? (i := 108) (by decide +kernel), List.mem_of_getElem? (i := 1418) (by decide +kernel), List.mem_of_getElem? (i := 1419) (by decide +kernel)⟩
theorem lw_p47 : lw_okq (⟨"TimberHouse$Rips", "inGang", "(I)Z"⟩, 22) := ⟨⟨by decide +kernel, by decide +kernel⟩, List.mem_of_getElem? (i := 108) (by decide +kernel), List.mem_of_getElem? (i := 1422) (by decide +kernel), List.mem_of_getElem? (i := 1423) (by decide +kernel)⟩
def lw_privs_3 : List (MethodName × Nat) := [(⟨"TimberHouse$Saw", "lay", "()V"⟩, 17), (⟨"TimberHouse$Saw", "laySlab", "(I)V"⟩, 17), (⟨"TimberHouse$Saw", "about", "(II)J"⟩, 17), (⟨"TimberHouse$Saw", "lack", "(IIII)I"⟩, 17), (⟨"TimberHouse$Saw", "all", "(I)J"⟩, 17), (⟨"TimberHouse$Saw", "worth", "(I)J"⟩, 17), (⟨"TimberHouse$Saw", "yields", "(I)J"⟩, 17), (⟨"TimberHouse$Saw", "wood", "()I"⟩, 17), (⟨"TimberHouse$Saw", "may", "(IIII)I"⟩, 17), (⟨"TimberHouse$Saw", "apart", "(II)I"⟩, 17), (⟨"TimberHouse$Saw", "far", "(IIII)Z"⟩, 17), (⟨"TimberHouse$Rips", "fault", "(IIIIII)I"⟩, 22), (⟨"TimberHouse$Rips", "piece", "(IIII)I"⟩, 22), (⟨"TimberHouse$Rips", "allows", "(III)I"⟩, 22), (⟨"TimberHouse$Rips", "gang", "(I)I"⟩, 22), (⟨"TimberHouse$Rips", "inGang", "(I)Z"⟩, 22)]
theorem lw_r3 : ∀ q ∈ lw_privs_3, lw_okq q := List.forall_mem_cons.mpr ⟨lw_p32, List.forall_mem_cons.mpr ⟨lw_p33, List.forall_mem_cons.mpr ⟨lw_p34, List.forall_mem_cons.mpr ⟨lw_p35, List.forall_mem_cons.mpr ⟨lw_p36, List.forall_mem_cons.mpr ⟨lw_p37, List.forall_mem_cons.mpr ⟨lw_p38, List.forall_mem_cons.mpr ⟨lw_p39, List.forall_mem_cons.mpr ⟨lw_p40, List.forall_mem_cons.mpr ⟨lw_p41, List.forall_mem_cons.mpr ⟨lw_p42, List.forall_mem_cons.mpr ⟨lw_p43, List.forall_mem_cons.mpr ⟨lw_p44, List.forall_mem_cons.mpr ⟨lw_p45, List.forall_mem_cons.mpr ⟨lw_p46, List.forall_mem_cons.mpr ⟨lw_p47, fun _ h => absurd h List.not_mem_nil⟩⟩⟩⟩⟩⟩⟩⟩⟩⟩⟩⟩⟩⟩⟩⟩
theorem lw_p48 : lw_okq (⟨"TimberHouse$Rips", "need", "(II)I"⟩, 22) := ⟨⟨by decide +kernel, by decide +kernel⟩, List.mem_of_getElem? (i := 108) (by decide +kernel), List.mem_of_getElem? (i := 1426) (by decide +kernel), List.mem_of_getElem? (i := 1427) (by decide +kernel)⟩
theorem lw_p49 : lw_okq (⟨"TimberHouse$Rips", "margin", "(I)I"⟩, 22) := ⟨⟨by decide +kernel, by decide +kernel⟩, List.mem_of_getElem? (i := 108) (by decide +kernel), List.mem_of_getElem? (i := 1430) (by decide +kernel), List.mem_of_getElem? (i := 1431) (by decide +kernel)⟩
theorem lw_p50 : lw_okq (⟨"TimberHouse$Rips", "bow", "(I)I"⟩, 22) := ⟨⟨by decide +kernel, by decide +kernel⟩, List.mem_of_getElem? (i := 108) (by decide +kernel), List.mem_of_getElem? (i := 1434) (by decide +kernel), List.mem_of_getElem? (i := 1435) (by decide +kernel)⟩
theorem lw_p51 : lw_okq (⟨"TimberHouse$Rips", "run", "(II)I"⟩, 22) := ⟨⟨by decide +kernel, by decide +kernel⟩, List.mem_of_getElem? (i := 108) (by decide +kernel), List.mem_of_getElem? (i := 1438) (by decide +kernel), List.mem_of_getElem? (i := 1439) (by decide +kernel)⟩
theorem lw_p52 : lw_okq (⟨"TimberHouse$Rips", "fit", "()V"⟩, 22) := ⟨⟨by decide +kernel, by decide +kernel⟩, List.mem_of_getElem? (i := 108) (by decide +kernel), List.mem_of_getElem? (i := 1443) (by decide +kernel), List.mem_of_getElem? (i := 1444) (by decide +kernel)⟩
theorem lw_p53 : lw_okq (⟨"TimberHouse$Rips", "badSteps", "(III)I"⟩, 22) := ⟨⟨by decide +kernel, by decide +kernel⟩, List.mem_of_getElem? (i := 108) (by decide +kernel), List.mem_of_getElem? (i := 1448) (by decide +kernel), List.mem_of_getElem? (i := 1449) (by decide +kernel)⟩
theorem lw_p54 : lw_okq (⟨"TimberHouse$Rips", "overlaps", "(IIIII)Z"⟩, 22) := ⟨⟨by decide +kernel, by decide +kernel⟩, List.mem_of_getElem? (i := 108) (by decide +kernel), List.mem_of_getElem? (i := 1452) (by decide +kernel), List.mem_of_getElem? (i := 1453) (by decide +kernel)⟩
theorem lw_p55 : lw_okq (⟨"TimberHouse$Rips", "fitRow", "(IIII)V"⟩, 22) := ⟨⟨by decide +kernel, by decide +kernel⟩, List.mem_of_getElem? (i := 108) (by decide +kernel), List.mem_of_getElem? (i := 1456) (by decide +kernel), List.mem_of_getElem? (i := 1457) (by decide +kernel)⟩
theorem lw_p56 : lw_okq (⟨"TimberHouse$Rips", "cut", "()V"⟩, 22) := ⟨⟨by decide +kernel, by decide +kernel⟩, List.mem_of_getElem? (i := 108) (by decide +kernel), List.mem_of_getElem? (i := 1463) (by decide +kernel), List.mem_of_getElem? (i := 1464) (by decide +kernel)⟩
theorem lw_p57 : lw_okq (⟨"TimberHouse$Rips", "solveNoStage", "()V"⟩, 22) := ⟨⟨by decide +kernel, by decide +kernel⟩, List.mem_of_getElem? (i := 108) (by decide +kernel), List.mem_of_getElem? (i := 1467) (by decide +kernel), List.mem_of_getElem? (i := 1468) (by decide +kernel)⟩
theorem lw_p58 : lw_okq (⟨"TimberHouse$Rips", "bestPiece", "(II)I"⟩, 22) := ⟨⟨by decide +kernel, by decide +kernel⟩, List.mem_of_getElem? (i := 108) (by decide +kernel), List.mem_of_getElem? (i := 1471) (by decide +kernel), List.mem_of_getElem? (i := 1472) (by decide +kernel)⟩
theorem lw_p59 : lw_okq (⟨"TimberHouse$Rips", "pricedWorth", "(II)J"⟩, 22) := ⟨⟨by decide +kernel, by decide +kernel⟩, List.mem_of_getElem? (i := 108) (by decide +kernel), List.mem_of_getElem? (i := 1475) (by decide +kernel), List.mem_of_getElem? (i := 1476) (by decide +kernel)⟩
theorem lw_p60 : lw_okq (⟨"TimberHouse$Rips", "solveLevel", "(I)V"⟩, 22) := ⟨⟨by decide +kernel, by decide +kernel⟩, List.mem_of_getElem? (i := 108) (by decide +kernel), List.mem_of_getElem? (i := 1480) (by decide +kernel), List.mem_of_getElem? (i := 1481) (by decide +kernel)⟩
theorem lw_p61 : lw_okq (⟨"TimberHouse$Rips", "isRipped", "(I)Z"⟩, 22) := ⟨⟨by decide +kernel, by decide +kernel⟩, List.mem_of_getElem? (i := 108) (by decide +kernel), List.mem_of_getElem? (i := 1484) (by decide +kernel), List.mem_of_getElem? (i := 1485) (by decide +kernel)⟩
theorem lw_p62 : lw_okq (⟨"TimberHouse$Rips", "hasWidth", "(I)Z"⟩, 22) := ⟨⟨by decide +kernel, by decide +kernel⟩, List.mem_of_getElem? (i := 108) (by decide +kernel), List.mem_of_getElem? (i := 1488) (by decide +kernel), List.mem_of_getElem? (i := 1489) (by decide +kernel)⟩
theorem lw_p63 : lw_okq (⟨"TimberHouse$Rips", "clearLine", "(III)V"⟩, 22) := ⟨⟨by decide +kernel, by decide +kernel⟩, List.mem_of_getElem? (i := 108) (by decide +kernel), List.mem_of_getElem? (i := 1492) (by decide +kernel), List.mem_of_getElem? (i := 1493) (by decide +kernel)⟩
def lw_privs_4 : List (MethodName × Nat) := [(⟨"TimberHouse$Rips", "need", "(II)I"⟩, 22), (⟨"TimberHouse$Rips", "margin", "(I)I"⟩, 22), (⟨"TimberHouse$Rips", "bow", "(I)I"⟩, 22), (⟨"TimberHouse$Rips", "run", "(II)I"⟩, 22), (⟨"TimberHouse$Rips", "fit", "()V"⟩, 22), (⟨"TimberHouse$Rips", "badSteps", "(III)I"⟩, 22), (⟨"TimberHouse$Rips", "overlaps", "(IIIII)Z"⟩, 22), (⟨"TimberHouse$Rips", "fitRow", "(IIII)V"⟩, 22), (⟨"TimberHouse$Rips", "cut", "()V"⟩, 22), (⟨"TimberHouse$Rips", "solveNoStage", "()V"⟩, 22), (⟨"TimberHouse$Rips", "bestPiece", "(II)I"⟩, 22), (⟨"TimberHouse$Rips", "pricedWorth", "(II)J"⟩, 22), (⟨"TimberHouse$Rips", "solveLevel", "(I)V"⟩, 22), (⟨"TimberHouse$Rips", "isRipped", "(I)Z"⟩, 22), (⟨"TimberHouse$Rips", "hasWidth", "(I)Z"⟩, 22), (⟨"TimberHouse$Rips", "clearLine", "(III)V"⟩, 22)]
theorem lw_r4 : ∀ q ∈ lw_privs_4, lw_okq q := List.forall_mem_cons.mpr ⟨lw_p48, List.forall_mem_cons.mpr ⟨lw_p49, List.forall_mem_cons.mpr ⟨lw_p50, List.forall_mem_cons.mpr ⟨lw_p51, List.forall_mem_cons.mpr ⟨lw_p52, List.forall_mem_cons.mpr ⟨lw_p53, List.forall_mem_cons.mpr ⟨lw_p54, List.forall_mem_cons.mpr ⟨lw_p55, List.forall_mem_cons.mpr ⟨lw_p56, List.forall_mem_cons.mpr ⟨lw_p57, List.forall_mem_cons.mpr ⟨lw_p58, List.forall_mem_cons.mpr ⟨lw_p59, List.forall_mem_cons.mpr ⟨lw_p60, List.forall_mem_cons.mpr ⟨lw_p61, List.forall_mem_cons.mpr ⟨lw_p62, List.forall_mem_cons.mpr ⟨lw_p63, fun _ h => absurd h List.not_mem_nil⟩⟩⟩⟩⟩⟩⟩⟩⟩⟩⟩⟩⟩⟩⟩⟩
theorem lw_p64 : lw_okq (⟨"TimberHouse$Rips", "solveLine", "(IZIII)V"⟩, 22) := ⟨⟨by decide +kernel, by decide +kernel⟩, List.mem_of_getElem? (i := 108) (by decide +kernel), List.mem_of_getElem? (i := 1496) (by decide +kernel), List.mem_of_getElem? (i := 1497) (by decide +kernel)⟩
theorem lw_p65 : lw_okq (⟨"TimberHouse$Rips", "solveTop", "()V"⟩, 22) := ⟨⟨by decide +kernel, by decide +kernel⟩, List.mem_of_getElem? (i := 108) (by decide +kernel), List.mem_of_getElem? (i := 1504) (by decide +kernel), List.mem_of_getElem? (i := 1505) (by decide +kernel)⟩
theorem lw_p66 : lw_okq (⟨"TimberHouse$Rips", "topKey", "(II)J"⟩, 22) := ⟨⟨by decide +kernel, by decide +kernel⟩, List.mem_of_getElem? (i := 108) (by decide +kernel), List.mem_of_getElem? (i := 1508) (by decide +kernel), List.mem_of_getElem? (i := 1509) (by decide +kernel)⟩
theorem lw_p67 : lw_okq (⟨"TimberHouse$Rips", "layTop", "()V"⟩, 22) := ⟨⟨by decide +kernel, by decide +kernel⟩, List.mem_of_getElem? (i := 108) (by decide +kernel), List.mem_of_getElem? (i := 1512) (by decide +kernel), List.mem_of_getElem? (i := 1513) (by decide +kernel)⟩
theorem lw_p68 : lw_okq (⟨"TimberHouse$Rips", "lay", "(IIIII)V"⟩, 22) := ⟨⟨by decide +kernel, by decide +kernel⟩, List.mem_of_getElem? (i := 108) (by decide +kernel), List.mem_of_getElem? (i := 1516) (by decide +kernel), List.mem_of_getElem? (i := 1517) (by decide +kernel)⟩
theorem lw_p69 : lw_okq (⟨"TimberHouse$Rips", "layPiece", "(IIII)V"⟩, 22) := ⟨⟨by decide +kernel, by decide +kernel⟩, List.mem_of_getElem? (i := 108) (by decide +kernel), List.mem_of_getElem? (i := 1520) (by decide +kernel), List.mem_of_getElem? (i := 1521) (by decide +kernel)⟩
theorem lw_p70 : lw_okq (⟨"TimberHouse$Rips", "prices", "(I)I"⟩, 22) := ⟨⟨by decide +kernel, by decide +kernel⟩, List.mem_of_getElem? (i := 108) (by decide +kernel), List.mem_of_getElem? (i := 1528) (by decide +kernel), List.mem_of_getElem? (i := 1529) (by decide +kernel)⟩
theorem lw_p71 : lw_okq (⟨"TimberHouse$Rips", "value", "()J"⟩, 22) := ⟨⟨by decide +kernel, by decide +kernel⟩, List.mem_of_getElem? (i := 108) (by decide +kernel), List.mem_of_getElem? (i := 1534) (by decide +kernel), List.mem_of_getElem? (i := 1535) (by decide +kernel)⟩
theorem lw_p72 : lw_okq (⟨"TimberHouse$Rips", "count", "(I)I"⟩, 22) := ⟨⟨by decide +kernel, by decide +kernel⟩, List.mem_of_getElem? (i := 108) (by decide +kernel), List.mem_of_getElem? (i := 1538) (by decide +kernel), List.mem_of_getElem? (i := 1539) (by decide +kernel)⟩
theorem lw_p73 : lw_okq (⟨"TimberHouse$Rips", "tooMany", "()Z"⟩, 22) := ⟨⟨by decide +kernel, by decide +kernel⟩, List.mem_of_getElem? (i := 108) (by decide +kernel), List.mem_of_getElem? (i := 1543) (by decide +kernel), List.mem_of_getElem? (i := 1544) (by decide +kernel)⟩
theorem lw_p74 : lw_okq (⟨"TimberHouse$Rips", "settled", "()Z"⟩, 22) := ⟨⟨by decide +kernel, by decide +kernel⟩, List.mem_of_getElem? (i := 108) (by decide +kernel), List.mem_of_getElem? (i := 1550) (by decide +kernel), List.mem_of_getElem? (i := 1551) (by decide +kernel)⟩
theorem lw_p75 : lw_okq (⟨"TimberHouse$Rips", "raise", "(I)V"⟩, 22) := ⟨⟨by decide +kernel, by decide +kernel⟩, List.mem_of_getElem? (i := 108) (by decide +kernel), List.mem_of_getElem? (i := 1555) (by decide +kernel), List.mem_of_getElem? (i := 1556) (by decide +kernel)⟩
theorem lw_p76 : lw_okq (⟨"TimberHouse$Rips", "takeOff", "()V"⟩, 22) := ⟨⟨by decide +kernel, by decide +kernel⟩, List.mem_of_getElem? (i := 108) (by decide +kernel), List.mem_of_getElem? (i := 1559) (by decide +kernel), List.mem_of_getElem? (i := 1560) (by decide +kernel)⟩
theorem lw_p77 : lw_okq (⟨"TimberHouse$Rips", "drop", "(I)V"⟩, 22) := ⟨⟨by decide +kernel, by decide +kernel⟩, List.mem_of_getElem? (i := 108) (by decide +kernel), List.mem_of_getElem? (i := 1563) (by decide +kernel), List.mem_of_getElem? (i := 1564) (by decide +kernel)⟩
theorem lw_p78 : lw_okq (⟨"TimberHouse$Rips", "worth", "()J"⟩, 22) := ⟨⟨by decide +kernel, by decide +kernel⟩, List.mem_of_getElem? (i := 108) (by decide +kernel), List.mem_of_getElem? (i := 1567) (by decide +kernel), List.mem_of_getElem? (i := 1568) (by decide +kernel)⟩
theorem lw_p79 : lw_okq (⟨"TimberHouse$Rips", "at", "(II)J"⟩, 22) := ⟨⟨by decide +kernel, by decide +kernel⟩, List.mem_of_getElem? (i := 108) (by decide +kernel), List.mem_of_getElem? (i := 1571) (by decide +kernel), List.mem_of_getElem? (i := 1572) (by decide +kernel)⟩
def lw_privs_5 : List (MethodName × Nat) := [(⟨"TimberHouse$Rips", "solveLine", "(IZIII)V"⟩, 22), (⟨"TimberHouse$Rips", "solveTop", "()V"⟩, 22), (⟨"TimberHouse$Rips", "topKey", "(II)J"⟩, 22), (⟨"TimberHouse$Rips", "layTop", "()V"⟩, 22), (⟨"TimberHouse$Rips", "lay", "(IIIII)V"⟩, 22), (⟨"TimberHouse$Rips", "layPiece", "(IIII)V"⟩, 22), (⟨"TimberHouse$Rips", "prices", "(I)I"⟩, 22), (⟨"TimberHouse$Rips", "value", "()J"⟩, 22), (⟨"TimberHouse$Rips", "count", "(I)I"⟩, 22), (⟨"TimberHouse$Rips", "tooMany", "()Z"⟩, 22), (⟨"TimberHouse$Rips", "settled", "()Z"⟩, 22), (⟨"TimberHouse$Rips", "raise", "(I)V"⟩, 22), (⟨"TimberHouse$Rips", "takeOff", "()V"⟩, 22), (⟨"TimberHouse$Rips", "drop", "(I)V"⟩, 22), (⟨"TimberHouse$Rips", "worth", "()J"⟩, 22), (⟨"TimberHouse$Rips", "at", "(II)J"⟩, 22)]
theorem lw_r5 : ∀ q ∈ lw_privs_5, lw_okq q := List.forall_mem_cons.mpr ⟨lw_p64, List.forall_mem_cons.mpr ⟨lw_p65, List.forall_mem_cons.mpr ⟨lw_p66, List.forall_mem_cons.mpr ⟨lw_p67, List.forall_mem_cons.mpr ⟨lw_p68, List.forall_mem_cons.mpr ⟨lw_p69, List.forall_mem_cons.mpr ⟨lw_p70, List.forall_mem_cons.mpr ⟨lw_p71, List.forall_mem_cons.mpr ⟨lw_p72, List.forall_mem_cons.mpr ⟨lw_p73, List.forall_mem_cons.mpr ⟨lw_p74, List.forall_mem_cons.mpr ⟨lw_p75, List.forall_mem_cons.mpr ⟨lw_p76, List.forall_mem_cons.mpr ⟨lw_p77, List.forall_mem_cons.mpr ⟨lw_p78, List.forall_mem_cons.mpr ⟨lw_p79, fun _ h => absurd h List.not_mem_nil⟩⟩⟩⟩⟩⟩⟩⟩⟩⟩⟩⟩⟩⟩⟩⟩
theorem lw_p80 : lw_okq (⟨"TimberHouse$Rips", "clear", "(I)I"⟩, 22) := ⟨⟨by decide +kernel, by decide +kernel⟩, List.mem_of_getElem? (i := 108) (by decide +kernel), List.mem_of_getElem? (i := 1575) (by decide +kernel), List.mem_of_getElem? (i := 1576) (by decide +kernel)⟩
theorem lw_p81 : lw_okq (⟨"TimberHouse$Rips", "bound", "()J"⟩, 22) := ⟨⟨by decide +kernel, by decide +kernel⟩, List.mem_of_getElem? (i := 108) (by decide +kernel), List.mem_of_getElem? (i := 1579) (by decide +kernel), List.mem_of_getElem? (i := 1580) (by decide +kernel)⟩
theorem lw_p82 : lw_okq (⟨"TimberHouse$Rips", "price", "(II)J"⟩, 22) := ⟨⟨by decide +kernel, by decide +kernel⟩, List.mem_of_getElem? (i := 108) (by decide +kernel), List.mem_of_getElem? (i := 1583) (by decide +kernel), List.mem_of_getElem? (i := 1584) (by decide +kernel)⟩
theorem lw_p83 : lw_okq (⟨"TimberHouse$Rips", "salvage", "(II)I"⟩, 22) := ⟨⟨by decide +kernel, by decide +kernel⟩, List.mem_of_getElem? (i := 108) (by decide +kernel), List.mem_of_getElem? (i := 1587) (by decide +kernel), List.mem_of_getElem? (i := 1588) (by decide +kernel)⟩
theorem lw_p84 : lw_okq (⟨"TimberHouse$Rips", "covered", "(I)I"⟩, 22) := ⟨⟨by decide +kernel, by decide +kernel⟩, List.mem_of_getElem? (i := 108) (by decide +kernel), List.mem_of_getElem? (i := 1591) (by decide +kernel), List.mem_of_getElem? (i := 1592) (by decide +kernel)⟩
theorem lw_p85 : lw_okq (⟨"TimberHouse$Rips", "panel", "(II)I"⟩, 22) := ⟨⟨by decide +kernel, by decide +kernel⟩, List.mem_of_getElem? (i := 108) (by decide +kernel), List.mem_of_getElem? (i := 1595) (by decide +kernel), List.mem_of_getElem? (i := 1596) (by decide +kernel)⟩
theorem lw_p86 : lw_okq (⟨"TimberHouse$Rips", "sumPanels", "(I)V"⟩, 22) := ⟨⟨by decide +kernel, by decide +kernel⟩, List.mem_of_getElem? (i := 108) (by decide +kernel), List.mem_of_getElem? (i := 1599) (by decide +kernel), List.mem_of_getElem? (i := 1600) (by decide +kernel)⟩
theorem lw_p87 : lw_okq (⟨"TimberHouse$Rips", "fewest", "(II)I"⟩, 22) := ⟨⟨by decide +kernel, by decide +kernel⟩, List.mem_of_getElem? (i := 108) (by decide +kernel), List.mem_of_getElem? (i := 1603) (by decide +kernel), List.mem_of_getElem? (i := 1604) (by decide +kernel)⟩
theorem lw_p88 : lw_okq (⟨"TimberHouse$Rips", "greatest", "()I"⟩, 22) := ⟨⟨by decide +kernel, by decide +kernel⟩, List.mem_of_getElem? (i := 108) (by decide +kernel), List.mem_of_getElem? (i := 1608) (by decide +kernel), List.mem_of_getElem? (i := 1609) (by decide +kernel)⟩
theorem lw_p89 : lw_okq (⟨"TimberHouse$Fingers", "piece", "(II)I"⟩, 20) := ⟨⟨by decide +kernel, by decide +kernel⟩, List.mem_of_getElem? (i := 211) (by decide +kernel), List.mem_of_getElem? (i := 1617) (by decide +kernel), List.mem_of_getElem? (i := 1618) (by decide +kernel)⟩
theorem lw_p90 : lw_okq (⟨"TimberHouse$Fingers", "want", "(II)I"⟩, 20) := ⟨⟨by decide +kernel, by decide +kernel⟩, List.mem_of_getElem? (i := 211) (by decide +kernel), List.mem_of_getElem? (i := 1628) (by decide +kernel), List.mem_of_getElem? (i := 1629) (by decide +kernel)⟩
theorem lw_p91 : lw_okq (⟨"TimberHouse$Fingers", "bar", "(II)I"⟩, 20) := ⟨⟨by decide +kernel, by decide +kernel⟩, List.mem_of_getElem? (i := 211) (by decide +kernel), List.mem_of_getElem? (i := 1635) (by decide +kernel), List.mem_of_getElem? (i := 1636) (by decide +kernel)⟩
theorem lw_p92 : lw_okq (⟨"TimberHouse$Fingers", "group", "(IZ)I"⟩, 20) := ⟨⟨by decide +kernel, by decide +kernel⟩, List.mem_of_getElem? (i := 211) (by decide +kernel), List.mem_of_getElem? (i := 1639) (by decide +kernel), List.mem_of_getElem? (i := 1640) (by decide +kernel)⟩
theorem lw_p93 : lw_okq (⟨"TimberHouse$Fingers", "run", "()I"⟩, 20) := ⟨⟨by decide +kernel, by decide +kernel⟩, List.mem_of_getElem? (i := 211) (by decide +kernel), List.mem_of_getElem? (i := 1643) (by decide +kernel), List.mem_of_getElem? (i := 1644) (by decide +kernel)⟩
theorem lw_p94 : lw_okq (⟨"TimberHouse$Fingers", "makeLine", "()I"⟩, 20) := ⟨⟨by decide +kernel, by decide +kernel⟩, List.mem_of_getElem? (i := 211) (by decide +kernel), List.mem_of_getElem? (i := 1647) (by decide +kernel), List.mem_of_getElem? (i := 1648) (by decide +kernel)⟩
theorem lw_p95 : lw_okq (⟨"TimberHouse$Fingers", "solve", "(II)V"⟩, 20) := ⟨⟨by decide +kernel, by decide +kernel⟩, List.mem_of_getElem? (i := 211) (by decide +kernel), List.mem_of_getElem? (i := 1651) (by decide +kernel), List.mem_of_getElem? (i := 1652) (by decide +kernel)⟩
def lw_privs_6 : List (MethodName × Nat) := [(⟨"TimberHouse$Rips", "clear", "(I)I"⟩, 22), (⟨"TimberHouse$Rips", "bound", "()J"⟩, 22), (⟨"TimberHouse$Rips", "price", "(II)J"⟩, 22), (⟨"TimberHouse$Rips", "salvage", "(II)I"⟩, 22), (⟨"TimberHouse$Rips", "covered", "(I)I"⟩, 22), (⟨"TimberHouse$Rips", "panel", "(II)I"⟩, 22), (⟨"TimberHouse$Rips", "sumPanels", "(I)V"⟩, 22), (⟨"TimberHouse$Rips", "fewest", "(II)I"⟩, 22), (⟨"TimberHouse$Rips", "greatest", "()I"⟩, 22), (⟨"TimberHouse$Fingers", "piece", "(II)I"⟩, 20), (⟨"TimberHouse$Fingers", "want", "(II)I"⟩, 20), (⟨"TimberHouse$Fingers", "bar", "(II)I"⟩, 20), (⟨"TimberHouse$Fingers", "group", "(IZ)I"⟩, 20), (⟨"TimberHouse$Fingers", "run", "()I"⟩, 20), (⟨"TimberHouse$Fingers", "makeLine", "()I"⟩, 20), (⟨"TimberHouse$Fingers", "solve", "(II)V"⟩, 20)]
theorem lw_r6 : ∀ q ∈ lw_privs_6, lw_okq q := List.forall_mem_cons.mpr ⟨lw_p80, List.forall_mem_cons.mpr ⟨lw_p81, List.forall_mem_cons.mpr ⟨lw_p82, List.forall_mem_cons.mpr ⟨lw_p83, List.forall_mem_cons.mpr ⟨lw_p84, List.forall_mem_cons.mpr ⟨lw_p85, List.forall_mem_cons.mpr ⟨lw_p86, List.forall_mem_cons.mpr ⟨lw_p87, List.forall_mem_cons.mpr ⟨lw_p88, List.forall_mem_cons.mpr ⟨lw_p89, List.forall_mem_cons.mpr ⟨lw_p90, List.forall_mem_cons.mpr ⟨lw_p91, List.forall_mem_cons.mpr ⟨lw_p92, List.forall_mem_cons.mpr ⟨lw_p93, List.forall_mem_cons.mpr ⟨lw_p94, List.forall_mem_cons.mpr ⟨lw_p95, fun _ h => absurd h List.not_mem_nil⟩⟩⟩⟩⟩⟩⟩⟩⟩⟩⟩⟩⟩⟩⟩⟩
theorem lw_p96 : lw_okq (⟨"TimberHouse$Fingers", "lengthOf", "(I)I"⟩, 20) := ⟨⟨by decide +kernel, by decide +kernel⟩, List.mem_of_getElem? (i := 211) (by decide +kernel), List.mem_of_getElem? (i := 1655) (by decide +kernel), List.mem_of_getElem? (i := 1656) (by decide +kernel)⟩
theorem lw_p97 : lw_okq (⟨"TimberHouse$Fingers", "solveAt", "(II)V"⟩, 20) := ⟨⟨by decide +kernel, by decide +kernel⟩, List.mem_of_getElem? (i := 211) (by decide +kernel), List.mem_of_getElem? (i := 1659) (by decide +kernel), List.mem_of_getElem? (i := 1660) (by decide +kernel)⟩
theorem lw_p98 : lw_okq (⟨"TimberHouse$Fingers", "endOf", "(III)I"⟩, 20) := ⟨⟨by decide +kernel, by decide +kernel⟩, List.mem_of_getElem? (i := 211) (by decide +kernel), List.mem_of_getElem? (i := 1663) (by decide +kernel), List.mem_of_getElem? (i := 1664) (by decide +kernel)⟩
theorem lw_p99 : lw_okq (⟨"TimberHouse$Fingers", "joins", "(II)Z"⟩, 20) := ⟨⟨by decide +kernel, by decide +kernel⟩, List.mem_of_getElem? (i := 211) (by decide +kernel), List.mem_of_getElem? (i := 1667) (by decide +kernel), List.mem_of_getElem? (i := 1668) (by decide +kernel)⟩
theorem lw_p100 : lw_okq (⟨"TimberHouse$Fingers", "make", "(III)I"⟩, 20) := ⟨⟨by decide +kernel, by decide +kernel⟩, List.mem_of_getElem? (i := 211) (by decide +kernel), List.mem_of_getElem? (i := 1674) (by decide +kernel), List.mem_of_getElem? (i := 1675) (by decide +kernel)⟩
theorem lw_p101 : lw_okq (⟨"TimberHouse$Fingers", "order", "(I)I"⟩, 20) := ⟨⟨by decide +kernel, by decide +kernel⟩, List.mem_of_getElem? (i := 211) (by decide +kernel), List.mem_of_getElem? (i := 1678) (by decide +kernel), List.mem_of_getElem? (i := 1679) (by decide +kernel)⟩
theorem lw_p102 : lw_okq (⟨"TimberHouse$Fingers", "nextOrder", "(I)Z"⟩, 20) := ⟨⟨by decide +kernel, by decide +kernel⟩, List.mem_of_getElem? (i := 211) (by decide +kernel), List.mem_of_getElem? (i := 1685) (by decide +kernel), List.mem_of_getElem? (i := 1686) (by decide +kernel)⟩
theorem lw_p103 : lw_okq (⟨"TimberHouse$Fingers", "swap", "(II)V"⟩, 20) := ⟨⟨by decide +kernel, by decide +kernel⟩, List.mem_of_getElem? (i := 211) (by decide +kernel), List.mem_of_getElem? (i := 1689) (by decide +kernel), List.mem_of_getElem? (i := 1690) (by decide +kernel)⟩
theorem lw_p104 : lw_okq (⟨"TimberHouse$Fingers", "taken", "(I)I"⟩, 20) := ⟨⟨by decide +kernel, by decide +kernel⟩, List.mem_of_getElem? (i := 211) (by decide +kernel), List.mem_of_getElem? (i := 1693) (by decide +kernel), List.mem_of_getElem? (i := 1694) (by decide +kernel)⟩
theorem lw_p105 : lw_okq (⟨"TimberHouse$Fingers", "worth", "(I)J"⟩, 20) := ⟨⟨by decide +kernel, by decide +kernel⟩, List.mem_of_getElem? (i := 211) (by decide +kernel), List.mem_of_getElem? (i := 1699) (by decide +kernel), List.mem_of_getElem? (i := 1700) (by decide +kernel)⟩
theorem lw_p106 : lw_okq (⟨"TimberHouse$Fingers", "product", "(II)I"⟩, 20) := ⟨⟨by decide +kernel, by decide +kernel⟩, List.mem_of_getElem? (i := 211) (by decide +kernel), List.mem_of_getElem? (i := 1704) (by decide +kernel), List.mem_of_getElem? (i := 1705) (by decide +kernel)⟩
theorem lw_p107 : lw_okq (⟨"TimberHouse$Fingers", "joint", "(II)I"⟩, 20) := ⟨⟨by decide +kernel, by decide +kernel⟩, List.mem_of_getElem? (i := 211) (by decide +kernel), List.mem_of_getElem? (i := 1708) (by decide +kernel), List.mem_of_getElem? (i := 1709) (by decide +kernel)⟩
theorem lw_p108 : lw_okq (⟨"TimberHouse$Fingers", "cure", "(II)I"⟩, 20) := ⟨⟨by decide +kernel, by decide +kernel⟩, List.mem_of_getElem? (i := 211) (by decide +kernel), List.mem_of_getElem? (i := 1712) (by decide +kernel), List.mem_of_getElem? (i := 1713) (by decide +kernel)⟩
theorem lw_p109 : lw_okq (⟨"TimberHouse$Fingers", "load", "(II)I"⟩, 20) := ⟨⟨by decide +kernel, by decide +kernel⟩, List.mem_of_getElem? (i := 211) (by decide +kernel), List.mem_of_getElem? (i := 1716) (by decide +kernel), List.mem_of_getElem? (i := 1717) (by decide +kernel)⟩
theorem lw_p110 : lw_okq (⟨"TimberHouse$Fingers", "test", "(II)I"⟩, 20) := ⟨⟨by decide +kernel, by decide +kernel⟩, List.mem_of_getElem? (i := 211) (by decide +kernel), List.mem_of_getElem? (i := 1721) (by decide +kernel), List.mem_of_getElem? (i := 1722) (by decide +kernel)⟩
theorem lw_p111 : lw_okq (⟨"TimberHouse$Fingers", "stopBy", "(IZI)V"⟩, 20) := ⟨⟨by decide +kernel, by decide +kernel⟩, List.mem_of_getElem? (i := 211) (by decide +kernel), List.mem_of_getElem? (i := 1725) (by decide +kernel), List.mem_of_getElem? (i := 1726) (by decide +kernel)⟩
def lw_privs_7 : List (MethodName × Nat) := [(⟨"TimberHouse$Fingers", "lengthOf", "(I)I"⟩, 20), (⟨"TimberHouse$Fingers", "solveAt", "(II)V"⟩, 20), (⟨"TimberHouse$Fingers", "endOf", "(III)I"⟩, 20), (⟨"TimberHouse$Fingers", "joins", "(II)Z"⟩, 20), (⟨"TimberHouse$Fingers", "make", "(III)I"⟩, 20), (⟨"TimberHouse$Fingers", "order", "(I)I"⟩, 20), (⟨"TimberHouse$Fingers", "nextOrder", "(I)Z"⟩, 20), (⟨"TimberHouse$Fingers", "swap", "(II)V"⟩, 20), (⟨"TimberHouse$Fingers", "taken", "(I)I"⟩, 20), (⟨"TimberHouse$Fingers", "worth", "(I)J"⟩, 20), (⟨"TimberHouse$Fingers", "product", "(II)I"⟩, 20), (⟨"TimberHouse$Fingers", "joint", "(II)I"⟩, 20), (⟨"TimberHouse$Fingers", "cure", "(II)I"⟩, 20), (⟨"TimberHouse$Fingers", "load", "(II)I"⟩, 20), (⟨"TimberHouse$Fingers", "test", "(II)I"⟩, 20), (⟨"TimberHouse$Fingers", "stopBy", "(IZI)V"⟩, 20)]
theorem lw_r7 : ∀ q ∈ lw_privs_7, lw_okq q := List.forall_mem_cons.mpr ⟨lw_p96, List.forall_mem_cons.mpr ⟨lw_p97, List.forall_mem_cons.mpr ⟨lw_p98, List.forall_mem_cons.mpr ⟨lw_p99, List.forall_mem_cons.mpr ⟨lw_p100, List.forall_mem_cons.mpr ⟨lw_p101, List.forall_mem_cons.mpr ⟨lw_p102, List.forall_mem_cons.mpr ⟨lw_p103, List.forall_mem_cons.mpr ⟨lw_p104, List.forall_mem_cons.mpr ⟨lw_p105, List.forall_mem_cons.mpr ⟨lw_p106, List.forall_mem_cons.mpr ⟨lw_p107, List.forall_mem_cons.mpr ⟨lw_p108, List.forall_mem_cons.mpr ⟨lw_p109, List.forall_mem_cons.mpr ⟨lw_p110, List.forall_mem_cons.mpr ⟨lw_p111, fun _ h => absurd h List.not_mem_nil⟩⟩⟩⟩⟩⟩⟩⟩⟩⟩⟩⟩⟩⟩⟩⟩
theorem lw_p112 : lw_okq (⟨"TimberHouse$Fingers", "counted", "(I)I"⟩, 20) := ⟨⟨by decide +kernel, by decide +kernel⟩, List.mem_of_getElem? (i := 211) (by decide +kernel), List.mem_of_getElem? (i := 1729) (by decide +kernel), List.mem_of_getElem? (i := 1730) (by decide +kernel)⟩
theorem lw_p113 : lw_okq (⟨"TimberHouse$Fingers", "stop", "(I)I"⟩, 20) := ⟨⟨by decide +kernel, by decide +kernel⟩, List.mem_of_getElem? (i := 211) (by decide +kernel), List.mem_of_getElem? (i := 1733) (by decide +kernel), List.mem_of_getElem? (i := 1734) (by decide +kernel)⟩
theorem lw_p114 : lw_okq (⟨"TimberHouse$Turned", "start", "(I)I"⟩, 17) := ⟨⟨by decide +kernel, by decide +kernel⟩, List.mem_of_getElem? (i := 291) (by decide +kernel), List.mem_of_getElem? (i := 1741) (by decide +kernel), List.mem_of_getElem? (i := 1742) (by decide +kernel)⟩
theorem lw_p115 : lw_okq (⟨"TimberHouse$Turned", "line", "(II)I"⟩, 17) := ⟨⟨by decide +kernel, by decide +kernel⟩, List.mem_of_getElem? (i := 291) (by decide +kernel), List.mem_of_getElem? (i := 1746) (by decide +kernel), List.mem_of_getElem? (i := 1747) (by decide +kernel)⟩
theorem lw_p116 : lw_okq (⟨"TimberHouse$Turned", "mayGoTo", "(II)Z"⟩, 17) := ⟨⟨by decide +kernel, by decide +kernel⟩, List.mem_of_getElem? (i := 291) (by decide +kernel), List.mem_of_getElem? (i := 1750) (by decide +kernel), List.mem_of_getElem? (i := 1751) (by decide +kernel)⟩
theorem lw_p117 : lw_okq (⟨"TimberHouse$Turned", "arc", "(IIIIZ)I"⟩, 17) := ⟨⟨by decide +kernel, by decide +kernel⟩, List.mem_of_getElem? (i := 291) (by decide +kernel), List.mem_of_getElem? (i := 1756) (by decide +kernel), List.mem_of_getElem? (i := 1757) (by decide +kernel)⟩
theorem lw_p118 : lw_okq (⟨"TimberHouse$Turned", "turn", "()I"⟩, 17) := ⟨⟨by decide +kernel, by decide +kernel⟩, List.mem_of_getElem? (i := 291) (by decide +kernel), List.mem_of_getElem? (i := 1764) (by decide +kernel), List.mem_of_getElem? (i := 1765) (by decide +kernel)⟩
theorem lw_p119 : lw_okq (⟨"TimberHouse$Turned", "radius", "(II)I"⟩, 17) := ⟨⟨by decide +kernel, by decide +kernel⟩, List.mem_of_getElem? (i := 291) (by decide +kernel), List.mem_of_getElem? (i := 1769) (by decide +kernel), List.mem_of_getElem? (i := 1770) (by decide +kernel)⟩
theorem lw_p120 : lw_okq (⟨"TimberHouse$Turned", "about", "(II)I"⟩, 17) := ⟨⟨by decide +kernel, by decide +kernel⟩, List.mem_of_getElem? (i := 291) (by decide +kernel), List.mem_of_getElem? (i := 1774) (by decide +kernel), List.mem_of_getElem? (i := 1775) (by decide +kernel)⟩
theorem lw_p121 : lw_okq (⟨"TimberHouse$Turned", "tool", "(I)I"⟩, 17) := ⟨⟨by decide +kernel, by decide +kernel⟩, List.mem_of_getElem? (i := 291) (by decide +kernel), List.mem_of_getElem? (i := 1778) (by decide +kernel), List.mem_of_getElem? (i := 1779) (by decide +kernel)⟩
theorem lw_p122 : lw_okq (⟨"TimberHouse$Turned", "reachedAt", "(III)I"⟩, 17) := ⟨⟨by decide +kernel, by decide +kernel⟩, List.mem_of_getElem? (i := 291) (by decide +kernel), List.mem_of_getElem? (i := 1782) (by decide +kernel), List.mem_of_getElem? (i := 1783) (by decide +kernel)⟩
theorem lw_p123 : lw_okq (⟨"TimberHouse$Turned", "left", "(II)I"⟩, 17) := ⟨⟨by decide +kernel, by decide +kernel⟩, List.mem_of_getElem? (i := 291) (by decide +kernel), List.mem_of_getElem? (i := 1786) (by decide +kernel), List.mem_of_getElem? (i := 1787) (by decide +kernel)⟩
theorem lw_p124 : lw_okq (⟨"TimberHouse$Turned", "passesOf", "(IIII)I"⟩, 17) := ⟨⟨by decide +kernel, by decide +kernel⟩, List.mem_of_getElem? (i := 291) (by decide +kernel), List.mem_of_getElem? (i := 1791) (by decide +kernel), List.mem_of_getElem? (i := 1792) (by decide +kernel)⟩
theorem lw_p125 : lw_okq (⟨"TimberHouse$Turned", "cut", "(IIIII)I"⟩, 17) := ⟨⟨by decide +kernel, by decide +kernel⟩, List.mem_of_getElem? (i := 291) (by decide +kernel), List.mem_of_getElem? (i := 1796) (by decide +kernel), List.mem_of_getElem? (i := 1797) (by decide +kernel)⟩
theorem lw_p126 : lw_okq (⟨"TimberHouse$Turned", "steady", "(III)I"⟩, 17) := ⟨⟨by decide +kernel, by decide +kernel⟩, List.mem_of_getElem? (i := 291) (by decide +kernel), List.mem_of_getElem? (i := 1800) (by decide +kernel), List.mem_of_getElem? (i := 1801) (by decide +kernel)⟩
theorem lw_p127 : lw_okq (⟨"TimberHouse$Turned", "behindHeld", "(III)I"⟩, 17) := ⟨⟨by decide +kernel, by decide +kernel⟩, List.mem_of_getElem? (i := 291) (by decide +kernel), List.mem_of_getElem? (i := 1804) (by decide +kernel), List.mem_of_getElem? (i := 1805) (by decide +kernel)⟩
def lw_privs_8 : List (MethodName × Nat) := [(⟨"TimberHouse$Fingers", "counted", "(I)I"⟩, 20), (⟨"TimberHouse$Fingers", "stop", "(I)I"⟩, 20), (⟨"TimberHouse$Turned", "start", "(I)I"⟩, 17), (⟨"TimberHouse$Turned", "line", "(II)I"⟩, 17), (⟨"TimberHouse$Turned", "mayGoTo", "(II)Z"⟩, 17), (⟨"TimberHouse$Turned", "arc", "(IIIIZ)I"⟩, 17), (⟨"TimberHouse$Turned", "turn", "()I"⟩, 17), (⟨"TimberHouse$Turned", "radius", "(II)I"⟩, 17), (⟨"TimberHouse$Turned", "about", "(II)I"⟩, 17), (⟨"TimberHouse$Turned", "tool", "(I)I"⟩, 17), (⟨"TimberHouse$Turned", "reachedAt", "(III)I"⟩, 17), (⟨"TimberHouse$Turned", "left", "(II)I"⟩, 17), (⟨"TimberHouse$Turned", "passesOf", "(IIII)I"⟩, 17), (⟨"TimberHouse$Turned", "cut", "(IIIII)I"⟩, 17), (⟨"TimberHouse$Turned", "steady", "(III)I"⟩, 17), (⟨"TimberHouse$Turned", "behindHeld", "(III)I"⟩, 17)]
theorem lw_r8 : ∀ q ∈ lw_privs_8, lw_okq q := List.forall_mem_cons.mpr ⟨lw_p112, List.forall_mem_cons.mpr ⟨lw_p113, List.forall_mem_cons.mpr ⟨lw_p114, List.forall_mem_cons.mpr ⟨lw_p115, List.forall_mem_cons.mpr ⟨lw_p116, List.forall_mem_cons.mpr ⟨lw_p117, List.forall_mem_cons.mpr ⟨lw_p118, List.forall_mem_cons.mpr ⟨lw_p119, List.forall_mem_cons.mpr ⟨lw_p120, List.forall_mem_cons.mpr ⟨lw_p121, List.forall_mem_cons.mpr ⟨lw_p122, List.forall_mem_cons.mpr ⟨lw_p123, List.forall_mem_cons.mpr ⟨lw_p124, List.forall_mem_cons.mpr ⟨lw_p125, List.forall_mem_cons.mpr ⟨lw_p126, List.forall_mem_cons.mpr ⟨lw_p127, fun _ h => absurd h List.not_mem_nil⟩⟩⟩⟩⟩⟩⟩⟩⟩⟩⟩⟩⟩⟩⟩⟩
theorem lw_p128 : lw_okq (⟨"TimberHouse$Turned", "volume", "(IZ)J"⟩, 17) := ⟨⟨by decide +kernel, by decide +kernel⟩, List.mem_of_getElem? (i := 291) (by decide +kernel), List.mem_of_getElem? (i := 1808) (by decide +kernel), List.mem_of_getElem? (i := 1809) (by decide +kernel)⟩
theorem lw_p129 : lw_okq (⟨"TimberHouse$Turned", "hollow", "(III)I"⟩, 17) := ⟨⟨by decide +kernel, by decide +kernel⟩, List.mem_of_getElem? (i := 291) (by decide +kernel), List.mem_of_getElem? (i := 1815) (by decide +kernel), List.mem_of_getElem? (i := 1816) (by decide +kernel)⟩
theorem lw_p130 : lw_okq (⟨"TimberHouse$Turned", "copy", "(II)I"⟩, 17) := ⟨⟨by decide +kernel, by decide +kernel⟩, List.mem_of_getElem? (i := 291) (by decide +kernel), List.mem_of_getElem? (i := 1819) (by decide +kernel), List.mem_of_getElem? (i := 1820) (by decide +kernel)⟩
theorem lw_p131 : lw_okq (⟨"TimberHouse$Turned", "ring", "()I"⟩, 17) := ⟨⟨by decide +kernel, by decide +kernel⟩, List.mem_of_getElem? (i := 291) (by decide +kernel), List.mem_of_getElem? (i := 1826) (by decide +kernel), List.mem_of_getElem? (i := 1827) (by decide +kernel)⟩
theorem lw_p132 : lw_okq (⟨"TimberHouse$Turned", "wedge", "(III)I"⟩, 17) := ⟨⟨by decide +kernel, by decide +kernel⟩, List.mem_of_getElem? (i := 291) (by decide +kernel), List.mem_of_getElem? (i := 1830) (by decide +kernel), List.mem_of_getElem? (i := 1831) (by decide +kernel)⟩
theorem lw_p133 : lw_okq (⟨"TimberHouse$Turned", "isRing", "(I)Z"⟩, 17) := ⟨⟨by decide +kernel, by decide +kernel⟩, List.mem_of_getElem? (i := 291) (by decide +kernel), List.mem_of_getElem? (i := 1834) (by decide +kernel), List.mem_of_getElem? (i := 1835) (by decide +kernel)⟩
theorem lw_p134 : lw_okq (⟨"TimberHouse$Turned", "mitre", "(III)J"⟩, 17) := ⟨⟨by decide +kernel, by decide +kernel⟩, List.mem_of_getElem? (i := 291) (by decide +kernel), List.mem_of_getElem? (i := 1839) (by decide +kernel), List.mem_of_getElem? (i := 1840) (by decide +kernel)⟩
theorem lw_p135 : lw_okq (⟨"TimberHouse$Turned", "gap", "(II)J"⟩, 17) := ⟨⟨by decide +kernel, by decide +kernel⟩, List.mem_of_getElem? (i := 291) (by decide +kernel), List.mem_of_getElem? (i := 1845) (by decide +kernel), List.mem_of_getElem? (i := 1846) (by decide +kernel)⟩
theorem lw_p136 : lw_okq (⟨"TimberHouse$Turned", "open", "(I)J"⟩, 17) := ⟨⟨by decide +kernel, by decide +kernel⟩, List.mem_of_getElem? (i := 291) (by decide +kernel), List.mem_of_getElem? (i := 1849) (by decide +kernel), List.mem_of_getElem? (i := 1850) (by decide +kernel)⟩
theorem lw_p137 : lw_okq (⟨"TimberHouse$Turned", "closes", "(I)I"⟩, 17) := ⟨⟨by decide +kernel, by decide +kernel⟩, List.mem_of_getElem? (i := 291) (by decide +kernel), List.mem_of_getElem? (i := 1854) (by decide +kernel), List.mem_of_getElem? (i := 1855) (by decide +kernel)⟩
theorem lw_p138 : lw_okq (⟨"TimberHouse$Turned", "flute", "(III)J"⟩, 17) := ⟨⟨by decide +kernel, by decide +kernel⟩, List.mem_of_getElem? (i := 291) (by decide +kernel), List.mem_of_getElem? (i := 1858) (by decide +kernel), List.mem_of_getElem? (i := 1859) (by decide +kernel)⟩
theorem lw_p139 : lw_okq (⟨"TimberHouse$Turned", "thread", "(II)I"⟩, 17) := ⟨⟨by decide +kernel, by decide +kernel⟩, List.mem_of_getElem? (i := 291) (by decide +kernel), List.mem_of_getElem? (i := 1863) (by decide +kernel), List.mem_of_getElem? (i := 1864) (by decide +kernel)⟩
theorem lw_p140 : lw_okq (⟨"TimberHouse$Turned", "threadAt", "(II)J"⟩, 17) := ⟨⟨by decide +kernel, by decide +kernel⟩, List.mem_of_getElem? (i := 291) (by decide +kernel), List.mem_of_getElem? (i := 1867) (by decide +kernel), List.mem_of_getElem? (i := 1868) (by decide +kernel)⟩
theorem lw_p141 : lw_okq (⟨"TimberHouse$Turned", "row", "(II)I"⟩, 17) := ⟨⟨by decide +kernel, by decide +kernel⟩, List.mem_of_getElem? (i := 291) (by decide +kernel), List.mem_of_getElem? (i := 1872) (by decide +kernel), List.mem_of_getElem? (i := 1873) (by decide +kernel)⟩
theorem lw_p142 : lw_okq (⟨"TimberHouse$Turned", "speed", "(II)I"⟩, 17) := ⟨⟨by decide +kernel, by decide +kernel⟩, List.mem_of_getElem? (i := 291) (by decide +kernel), List.mem_of_getElem? (i := 1876) (by decide +kernel), List.mem_of_getElem? (i := 1877) (by decide +kernel)⟩
theorem lw_p143 : lw_okq (⟨"TimberHouse$Nails", "read", "()I"⟩, 11) := ⟨⟨by decide +kernel, by decide +kernel⟩, List.mem_of_getElem? (i := 355) (by decide +kernel), List.mem_of_getElem? (i := 1887) (by decide +kernel), List.mem_of_getElem? (i := 1888) (by decide +kernel)⟩
def lw_privs_9 : List (MethodName × Nat) := [(⟨"TimberHouse$Turned", "volume", "(IZ)J"⟩, 17), (⟨"TimberHouse$Turned", "hollow", "(III)I"⟩, 17), (⟨"TimberHouse$Turned", "copy", "(II)I"⟩, 17), (⟨"TimberHouse$Turned", "ring", "()I"⟩, 17), (⟨"TimberHouse$Turned", "wedge", "(III)I"⟩, 17), (⟨"TimberHouse$Turned", "isRing", "(I)Z"⟩, 17), (⟨"TimberHouse$Turned", "mitre", "(III)J"⟩, 17), (⟨"TimberHouse$Turned", "gap", "(II)J"⟩, 17), (⟨"TimberHouse$Turned", "open", "(I)J"⟩, 17), (⟨"TimberHouse$Turned", "closes", "(I)I"⟩, 17), (⟨"TimberHouse$Turned", "flute", "(III)J"⟩, 17), (⟨"TimberHouse$Turned", "thread", "(II)I"⟩, 17), (⟨"TimberHouse$Turned", "threadAt", "(II)J"⟩, 17), (⟨"TimberHouse$Turned", "row", "(II)I"⟩, 17), (⟨"TimberHouse$Turned", "speed", "(II)I"⟩, 17), (⟨"TimberHouse$Nails", "read", "()I"⟩, 11)]
theorem lw_r9 : ∀ q ∈ lw_privs_9, lw_okq q := List.forall_mem_cons.mpr ⟨lw_p128, List.forall_mem_cons.mpr ⟨lw_p129, List.forall_mem_cons.mpr ⟨lw_p130, List.forall_mem_cons.mpr ⟨lw_p131, List.forall_mem_cons.mpr ⟨lw_p132, List.forall_mem_cons.mpr ⟨lw_p133, List.forall_mem_cons.mpr ⟨lw_p134, List.forall_mem_cons.mpr ⟨lw_p135, List.forall_mem_cons.mpr ⟨lw_p136, List.forall_mem_cons.mpr ⟨lw_p137, List.forall_mem_cons.mpr ⟨lw_p138, List.forall_mem_cons.mpr ⟨lw_p139, List.forall_mem_cons.mpr ⟨lw_p140, List.forall_mem_cons.mpr ⟨lw_p141, List.forall_mem_cons.mpr ⟨lw_p142, List.forall_mem_cons.mpr ⟨lw_p143, fun _ h => absurd h List.not_mem_nil⟩⟩⟩⟩⟩⟩⟩⟩⟩⟩⟩⟩⟩⟩⟩⟩
theorem lw_p144 : lw_okq (⟨"TimberHouse$Nails", "statement", "(II)I"⟩, 11) := ⟨⟨by decide +kernel, by decide +kernel⟩, List.mem_of_getElem? (i := 355) (by decide +kernel), List.mem_of_getElem? (i := 1891) (by decide +kernel), List.mem_of_getElem? (i := 1892) (by decide +kernel)⟩
theorem lw_p145 : lw_okq (⟨"TimberHouse$Nails", "word", "(II)I"⟩, 11) := ⟨⟨by decide +kernel, by decide +kernel⟩, List.mem_of_getElem? (i := 355) (by decide +kernel), List.mem_of_getElem? (i := 1902) (by decide +kernel), List.mem_of_getElem? (i := 1903) (by decide +kernel)⟩
theorem lw_p146 : lw_okq (⟨"TimberHouse$Nails", "number", "(II)I"⟩, 11) := ⟨⟨by decide +kernel, by decide +kernel⟩, List.mem_of_getElem? (i := 355) (by decide +kernel), List.mem_of_getElem? (i := 1919) (by decide +kernel), List.mem_of_getElem? (i := 1920) (by decide +kernel)⟩
theorem lw_p147 : lw_okq (⟨"TimberHouse$Nails", "rule", "(II)I"⟩, 11) := ⟨⟨by decide +kernel, by decide +kernel⟩, List.mem_of_getElem? (i := 355) (by decide +kernel), List.mem_of_getElem? (i := 1936) (by decide +kernel), List.mem_of_getElem? (i := 1937) (by decide +kernel)⟩
theorem lw_p148 : lw_okq (⟨"TimberHouse$Nails", "set", "(II)I"⟩, 11) := ⟨⟨by decide +kernel, by decide +kernel⟩, List.mem_of_getElem? (i := 355) (by decide +kernel), List.mem_of_getElem? (i := 1945) (by decide +kernel), List.mem_of_getElem? (i := 1946) (by decide +kernel)⟩
theorem lw_p149 : lw_okq (⟨"TimberHouse$Nails", "holds", "(IIIII)J"⟩, 11) := ⟨⟨by decide +kernel, by decide +kernel⟩, List.mem_of_getElem? (i := 355) (by decide +kernel), List.mem_of_getElem? (i := 1950) (by decide +kernel), List.mem_of_getElem? (i := 1951) (by decide +kernel)⟩
theorem lw_p150 : lw_okq (⟨"TimberHouse$Nails", "formula", "(IIII)J"⟩, 11) := ⟨⟨by decide +kernel, by decide +kernel⟩, List.mem_of_getElem? (i := 355) (by decide +kernel), List.mem_of_getElem? (i := 1954) (by decide +kernel), List.mem_of_getElem? (i := 1955) (by decide +kernel)⟩
theorem lw_p151 : lw_okq (⟨"TimberHouse$Nails", "togetherOf", "(II)J"⟩, 11) := ⟨⟨by decide +kernel, by decide +kernel⟩, List.mem_of_getElem? (i := 355) (by decide +kernel), List.mem_of_getElem? (i := 1962) (by decide +kernel), List.mem_of_getElem? (i := 1963) (by decide +kernel)⟩
theorem lw_p152 : lw_okq (⟨"TimberHouse$Nails", "together", "(IJ)J"⟩, 11) := ⟨⟨by decide +kernel, by decide +kernel⟩, List.mem_of_getElem? (i := 355) (by decide +kernel), List.mem_of_getElem? (i := 1970) (by decide +kernel), List.mem_of_getElem? (i := 1971) (by decide +kernel)⟩
theorem lw_p153 : lw_okq (⟨"TimberHouse$Nails", "count", "(II)I"⟩, 11) := ⟨⟨by decide +kernel, by decide +kernel⟩, List.mem_of_getElem? (i := 355) (by decide +kernel), List.mem_of_getElem? (i := 1974) (by decide +kernel), List.mem_of_getElem? (i := 1975) (by decide +kernel)⟩
theorem lw_p154 : lw_okq (⟨"TimberHouse$Nails", "pattern", "(IIII)I"⟩, 11) := ⟨⟨by decide +kernel, by decide +kernel⟩, List.mem_of_getElem? (i := 355) (by decide +kernel), List.mem_of_getElem? (i := 1978) (by decide +kernel), List.mem_of_getElem? (i := 1979) (by decide +kernel)⟩
theorem lw_p155 : lw_okq (⟨"TimberHouse$Nails", "space", "(II)J"⟩, 11) := ⟨⟨by decide +kernel, by decide +kernel⟩, List.mem_of_getElem? (i := 355) (by decide +kernel), List.mem_of_getElem? (i := 1983) (by decide +kernel), List.mem_of_getElem? (i := 1984) (by decide +kernel)⟩
theorem lw_p156 : lw_okq (⟨"TimberHouse$Nails", "at", "(II)I"⟩, 11) := ⟨⟨by decide +kernel, by decide +kernel⟩, List.mem_of_getElem? (i := 355) (by decide +kernel), List.mem_of_getElem? (i := 1988) (by decide +kernel), List.mem_of_getElem? (i := 1989) (by decide +kernel)⟩
theorem lw_p157 : lw_okq (⟨"TimberHouse$Nails", "place", "(II)I"⟩, 11) := ⟨⟨by decide +kernel, by decide +kernel⟩, List.mem_of_getElem? (i := 355) (by decide +kernel), List.mem_of_getElem? (i := 1993) (by decide +kernel), List.mem_of_getElem? (i := 1994) (by decide +kernel)⟩
theorem lw_p158 : lw_okq (⟨"TimberHouse$Nails", "clear", "()I"⟩, 11) := ⟨⟨by decide +kernel, by decide +kernel⟩, List.mem_of_getElem? (i := 355) (by decide +kernel), List.mem_of_getElem? (i := 1997) (by decide +kernel), List.mem_of_getElem? (i := 1998) (by decide +kernel)⟩
theorem lw_p159 : lw_okq (⟨"TimberHouse$Nails", "keeps", "(III)I"⟩, 11) := ⟨⟨by decide +kernel, by decide +kernel⟩, List.mem_of_getElem? (i := 355) (by decide +kernel), List.mem_of_getElem? (i := 2001) (by decide +kernel), List.mem_of_getElem? (i := 2002) (by decide +kernel)⟩
def lw_privs_10 : List (MethodName × Nat) := [(⟨"TimberHouse$Nails", "statement", "(II)I"⟩, 11), (⟨"TimberHouse$Nails", "word", "(II)I"⟩, 11), (⟨"TimberHouse$Nails", "number", "(II)I"⟩, 11), (⟨"TimberHouse$Nails", "rule", "(II)I"⟩, 11), (⟨"TimberHouse$Nails", "set", "(II)I"⟩, 11), (⟨"TimberHouse$Nails", "holds", "(IIIII)J"⟩, 11), (⟨"TimberHouse$Nails", "formula", "(IIII)J"⟩, 11), (⟨"TimberHouse$Nails", "togetherOf", "(II)J"⟩, 11), (⟨"TimberHouse$Nails", "together", "(IJ)J"⟩, 11), (⟨"TimberHouse$Nails", "count", "(II)I"⟩, 11), (⟨"TimberHouse$Nails", "pattern", "(IIII)I"⟩, 11), (⟨"TimberHouse$Nails", "space", "(II)J"⟩, 11), (⟨"TimberHouse$Nails", "at", "(II)I"⟩, 11), (⟨"TimberHouse$Nails", "place", "(II)I"⟩, 11), (⟨"TimberHouse$Nails", "clear", "()I"⟩, 11), (⟨"TimberHouse$Nails", "keeps", "(III)I"⟩, 11)]
theorem lw_r10 : ∀ q ∈ lw_privs_10, lw_okq q := List.forall_mem_cons.mpr ⟨lw_p144, List.forall_mem_cons.mpr ⟨lw_p145, List.forall_mem_cons.mpr ⟨lw_p146, List.forall_mem_cons.mpr ⟨lw_p147, List.forall_mem_cons.mpr ⟨lw_p148, List.forall_mem_cons.mpr ⟨lw_p149, List.forall_mem_cons.mpr ⟨lw_p150, List.forall_mem_cons.mpr ⟨lw_p151, List.forall_mem_cons.mpr ⟨lw_p152, List.forall_mem_cons.mpr ⟨lw_p153, List.forall_mem_cons.mpr ⟨lw_p154, List.forall_mem_cons.mpr ⟨lw_p155, List.forall_mem_cons.mpr ⟨lw_p156, List.forall_mem_cons.mpr ⟨lw_p157, List.forall_mem_cons.mpr ⟨lw_p158, List.forall_mem_cons.mpr ⟨lw_p159, fun _ h => absurd h List.not_mem_nil⟩⟩⟩⟩⟩⟩⟩⟩⟩⟩⟩⟩⟩⟩⟩⟩
theorem lw_p160 : lw_okq (⟨"TimberHouse$Nails", "member", "(IIIII)I"⟩, 11) := ⟨⟨by decide +kernel, by decide +kernel⟩, List.mem_of_getElem? (i := 355) (by decide +kernel), List.mem_of_getElem? (i := 2008) (by decide +kernel), List.mem_of_getElem? (i := 2009) (by decide +kernel)⟩
theorem lw_p161 : lw_okq (⟨"TimberHouse$Nails", "in", "(III)I"⟩, 11) := ⟨⟨by decide +kernel, by decide +kernel⟩, List.mem_of_getElem? (i := 355) (by decide +kernel), List.mem_of_getElem? (i := 2015) (by decide +kernel), List.mem_of_getElem? (i := 2016) (by decide +kernel)⟩
theorem lw_p162 : lw_okq (⟨"TimberHouse$Nails", "isIn", "(III)Z"⟩, 11) := ⟨⟨by decide +kernel, by decide +kernel⟩, List.mem_of_getElem? (i := 355) (by decide +kernel), List.mem_of_getElem? (i := 2019) (by decide +kernel), List.mem_of_getElem? (i := 2020) (by decide +kernel)⟩
theorem lw_p163 : lw_okq (⟨"TimberHouse$Nails", "teeth", "(IIIIII)I"⟩, 11) := ⟨⟨by decide +kernel, by decide +kernel⟩, List.mem_of_getElem? (i := 355) (by decide +kernel), List.mem_of_getElem? (i := 2023) (by decide +kernel), List.mem_of_getElem? (i := 2024) (by decide +kernel)⟩
theorem lw_p164 : lw_okq (⟨"TimberHouse$Nails", "thick", "(II)I"⟩, 11) := ⟨⟨by decide +kernel, by decide +kernel⟩, List.mem_of_getElem? (i := 355) (by decide +kernel), List.mem_of_getElem? (i := 2027) (by decide +kernel), List.mem_of_getElem? (i := 2028) (by decide +kernel)⟩
theorem lw_p165 : lw_okq (⟨"TimberHouse$Nails", "hole", "(I)I"⟩, 11) := ⟨⟨by decide +kernel, by decide +kernel⟩, List.mem_of_getElem? (i := 355) (by decide +kernel), List.mem_of_getElem? (i := 2031) (by decide +kernel), List.mem_of_getElem? (i := 2032) (by decide +kernel)⟩
theorem lw_p166 : lw_okq (⟨"TimberHouse$Sheets", "sheet", "(IIII)I"⟩, 19) := ⟨⟨by decide +kernel, by decide +kernel⟩, List.mem_of_getElem? (i := 422) (by decide +kernel), List.mem_of_getElem? (i := 2040) (by decide +kernel), List.mem_of_getElem? (i := 2041) (by decide +kernel)⟩
theorem lw_p167 : lw_okq (⟨"TimberHouse$Sheets", "part", "(IIIZ)I"⟩, 19) := ⟨⟨by decide +kernel, by decide +kernel⟩, List.mem_of_getElem? (i := 422) (by decide +kernel), List.mem_of_getElem? (i := 2049) (by decide +kernel), List.mem_of_getElem? (i := 2050) (by decide +kernel)⟩
theorem lw_p168 : lw_okq (⟨"TimberHouse$Sheets", "count", "(II)I"⟩, 19) := ⟨⟨by decide +kernel, by decide +kernel⟩, List.mem_of_getElem? (i := 422) (by decide +kernel), List.mem_of_getElem? (i := 2054) (by decide +kernel), List.mem_of_getElem? (i := 2055) (by decide +kernel)⟩
theorem lw_p169 : lw_okq (⟨"TimberHouse$Sheets", "worth", "(IIII)I"⟩, 19) := ⟨⟨by decide +kernel, by decide +kernel⟩, List.mem_of_getElem? (i := 422) (by decide +kernel), List.mem_of_getElem? (i := 2059) (by decide +kernel), List.mem_of_getElem? (i := 2060) (by decide +kernel)⟩
theorem lw_p170 : lw_okq (⟨"TimberHouse$Sheets", "wanted", "([I)I"⟩, 19) := ⟨⟨by decide +kernel, by decide +kernel⟩, List.mem_of_getElem? (i := 422) (by decide +kernel), List.mem_of_getElem? (i := 2063) (by decide +kernel), List.mem_of_getElem? (i := 2064) (by decide +kernel)⟩
theorem lw_p171 : lw_okq (⟨"TimberHouse$Sheets", "solve", "(I)V"⟩, 19) := ⟨⟨by decide +kernel, by decide +kernel⟩, List.mem_of_getElem? (i := 422) (by decide +kernel), List.mem_of_getElem? (i := 2067) (by decide +kernel), List.mem_of_getElem? (i := 2068) (by decide +kernel)⟩
theorem lw_p172 : lw_okq (⟨"TimberHouse$Sheets", "solvePiece", "(IIII)V"⟩, 19) := ⟨⟨by decide +kernel, by decide +kernel⟩, List.mem_of_getElem? (i := 422) (by decide +kernel), List.mem_of_getElem? (i := 2071) (by decide +kernel), List.mem_of_getElem? (i := 2072) (by decide +kernel)⟩
theorem lw_p173 : lw_okq (⟨"TimberHouse$Sheets", "partOf", "(II)I"⟩, 19) := ⟨⟨by decide +kernel, by decide +kernel⟩, List.mem_of_getElem? (i := 422) (by decide +kernel), List.mem_of_getElem? (i := 2078) (by decide +kernel), List.mem_of_getElem? (i := 2079) (by decide +kernel)⟩
theorem lw_p174 : lw_okq (⟨"TimberHouse$Sheets", "run", "()I"⟩, 19) := ⟨⟨by decide +kernel, by decide +kernel⟩, List.mem_of_getElem? (i := 422) (by decide +kernel), List.mem_of_getElem? (i := 2084) (by decide +kernel), List.mem_of_getElem? (i := 2085) (by decide +kernel)⟩
theorem lw_p175 : lw_okq (⟨"TimberHouse$Sheets", "cutTimes", "(I)I"⟩, 19) := ⟨⟨by decide +kernel, by decide +kernel⟩, List.mem_of_getElem? (i := 422) (by decide +kernel), List.mem_of_getElem? (i := 2088) (by decide +kernel), List.mem_of_getElem? (i := 2089) (by decide +kernel)⟩
def lw_privs_11 : List (MethodName × Nat) := [(⟨"TimberHouse$Nails", "member", "(IIIII)I"⟩, 11), (⟨"TimberHouse$Nails", "in", "(III)I"⟩, 11), (⟨"TimberHouse$Nails", "isIn", "(III)Z"⟩, 11), (⟨"TimberHouse$Nails", "teeth", "(IIIIII)I"⟩, 11), (⟨"TimberHouse$Nails", "thick", "(II)I"⟩, 11), (⟨"TimberHouse$Nails", "hole", "(I)I"⟩, 11), (⟨"TimberHouse$Sheets", "sheet", "(IIII)I"⟩, 19), (⟨"TimberHouse$Sheets", "part", "(IIIZ)I"⟩, 19), (⟨"TimberHouse$Sheets", "count", "(II)I"⟩, 19), (⟨"TimberHouse$Sheets", "worth", "(IIII)I"⟩, 19), (⟨"TimberHouse$Sheets", "wanted", "([I)I"⟩, 19), (⟨"TimberHouse$Sheets", "solve", "(I)V"⟩, 19), (⟨"TimberHouse$Sheets", "solvePiece", "(IIII)V"⟩, 19), (⟨"TimberHouse$Sheets", "partOf", "(II)I"⟩, 19), (⟨"TimberHouse$Sheets", "run", "()I"⟩, 19), (⟨"TimberHouse$Sheets", "cutTimes", "(I)I"⟩, 19)]
theorem lw_r11 : ∀ q ∈ lw_privs_11, lw_okq q := List.forall_mem_cons.mpr ⟨lw_p160, List.forall_mem_cons.mpr ⟨lw_p161, List.forall_mem_cons.mpr ⟨lw_p162, List.forall_mem_cons.mpr ⟨lw_p163, List.forall_mem_cons.mpr ⟨lw_p164, List.forall_mem_cons.mpr ⟨lw_p165, List.forall_mem_cons.mpr ⟨lw_p166, List.forall_mem_cons.mpr ⟨lw_p167, List.forall_mem_cons.mpr ⟨lw_p168, List.forall_mem_cons.mpr ⟨lw_p169, List.forall_mem_cons.mpr ⟨lw_p170, List.forall_mem_cons.mpr ⟨lw_p171, List.forall_mem_cons.mpr ⟨lw_p172, List.forall_mem_cons.mpr ⟨lw_p173, List.forall_mem_cons.mpr ⟨lw_p174, List.forall_mem_cons.mpr ⟨lw_p175, fun _ h => absurd h List.not_mem_nil⟩⟩⟩⟩⟩⟩⟩⟩⟩⟩⟩⟩⟩⟩⟩⟩
theorem lw_p176 : lw_okq (⟨"TimberHouse$Sheets", "lay", "(I)I"⟩, 19) := ⟨⟨by decide +kernel, by decide +kernel⟩, List.mem_of_getElem? (i := 422) (by decide +kernel), List.mem_of_getElem? (i := 2092) (by decide +kernel), List.mem_of_getElem? (i := 2093) (by decide +kernel)⟩
theorem lw_p177 : lw_okq (⟨"TimberHouse$Sheets", "layTree", "(IIIIII)V"⟩, 19) := ⟨⟨by decide +kernel, by decide +kernel⟩, List.mem_of_getElem? (i := 422) (by decide +kernel), List.mem_of_getElem? (i := 2097) (by decide +kernel), List.mem_of_getElem? (i := 2098) (by decide +kernel)⟩
theorem lw_p178 : lw_okq (⟨"TimberHouse$Sheets", "note", "(I)V"⟩, 19) := ⟨⟨by decide +kernel, by decide +kernel⟩, List.mem_of_getElem? (i := 422) (by decide +kernel), List.mem_of_getElem? (i := 2101) (by decide +kernel), List.mem_of_getElem? (i := 2102) (by decide +kernel)⟩
theorem lw_p179 : lw_okq (⟨"TimberHouse$Sheets", "layLeaf", "(IIIII)V"⟩, 19) := ⟨⟨by decide +kernel, by decide +kernel⟩, List.mem_of_getElem? (i := 422) (by decide +kernel), List.mem_of_getElem? (i := 2105) (by decide +kernel), List.mem_of_getElem? (i := 2106) (by decide +kernel)⟩
theorem lw_p180 : lw_okq (⟨"TimberHouse$Sheets", "firstAlike", "()I"⟩, 19) := ⟨⟨by decide +kernel, by decide +kernel⟩, List.mem_of_getElem? (i := 422) (by decide +kernel), List.mem_of_getElem? (i := 2109) (by decide +kernel), List.mem_of_getElem? (i := 2110) (by decide +kernel)⟩
theorem lw_p181 : lw_okq (⟨"TimberHouse$Sheets", "isAlike", "(I)Z"⟩, 19) := ⟨⟨by decide +kernel, by decide +kernel⟩, List.mem_of_getElem? (i := 422) (by decide +kernel), List.mem_of_getElem? (i := 2113) (by decide +kernel), List.mem_of_getElem? (i := 2114) (by decide +kernel)⟩
theorem lw_p182 : lw_okq (⟨"TimberHouse$Sheets", "cut", "(II)I"⟩, 19) := ⟨⟨by decide +kernel, by decide +kernel⟩, List.mem_of_getElem? (i := 422) (by decide +kernel), List.mem_of_getElem? (i := 2117) (by decide +kernel), List.mem_of_getElem? (i := 2118) (by decide +kernel)⟩
theorem lw_p183 : lw_okq (⟨"TimberHouse$Sheets", "takenAt", "(III)I"⟩, 19) := ⟨⟨by decide +kernel, by decide +kernel⟩, List.mem_of_getElem? (i := 422) (by decide +kernel), List.mem_of_getElem? (i := 2121) (by decide +kernel), List.mem_of_getElem? (i := 2122) (by decide +kernel)⟩
theorem lw_p184 : lw_okq (⟨"TimberHouse$Sheets", "rest", "(III)I"⟩, 19) := ⟨⟨by decide +kernel, by decide +kernel⟩, List.mem_of_getElem? (i := 422) (by decide +kernel), List.mem_of_getElem? (i := 2126) (by decide +kernel), List.mem_of_getElem? (i := 2127) (by decide +kernel)⟩
theorem lw_p185 : lw_okq (⟨"TimberHouse$Sheets", "left", "(I)I"⟩, 19) := ⟨⟨by decide +kernel, by decide +kernel⟩, List.mem_of_getElem? (i := 422) (by decide +kernel), List.mem_of_getElem? (i := 2130) (by decide +kernel), List.mem_of_getElem? (i := 2131) (by decide +kernel)⟩
theorem lw_p186 : lw_okq (⟨"TimberHouse$Sheets", "all", "(I)J"⟩, 19) := ⟨⟨by decide +kernel, by decide +kernel⟩, List.mem_of_getElem? (i := 422) (by decide +kernel), List.mem_of_getElem? (i := 2134) (by decide +kernel), List.mem_of_getElem? (i := 2135) (by decide +kernel)⟩
theorem lw_p187 : lw_okq (⟨"TimberHouse$Sheets", "bound", "()J"⟩, 19) := ⟨⟨by decide +kernel, by decide +kernel⟩, List.mem_of_getElem? (i := 422) (by decide +kernel), List.mem_of_getElem? (i := 2139) (by decide +kernel), List.mem_of_getElem? (i := 2140) (by decide +kernel)⟩
theorem lw_p188 : lw_okq (⟨"TimberHouse$Router", "target", "(IIIII)I"⟩, 14) := ⟨⟨by decide +kernel, by decide +kernel⟩, List.mem_of_getElem? (i := 492) (by decide +kernel), List.mem_of_getElem? (i := 2149) (by decide +kernel), List.mem_of_getElem? (i := 2150) (by decide +kernel)⟩
theorem lw_p189 : lw_okq (⟨"TimberHouse$Router", "onGrid", "(II)Z"⟩, 14) := ⟨⟨by decide +kernel, by decide +kernel⟩, List.mem_of_getElem? (i := 492) (by decide +kernel), List.mem_of_getElem? (i := 2153) (by decide +kernel), List.mem_of_getElem? (i := 2154) (by decide +kernel)⟩
theorem lw_p190 : lw_okq (⟨"TimberHouse$Router", "keep", "(IIIIZ)I"⟩, 14) := ⟨⟨by decide +kernel, by decide +kernel⟩, List.mem_of_getElem? (i := 492) (by decide +kernel), List.mem_of_getElem? (i := 2163) (by decide +kernel), List.mem_of_getElem? (i := 2164) (by decide +kernel)⟩
theorem lw_p191 : lw_okq (⟨"TimberHouse$Router", "tool", "(III)I"⟩, 14) := ⟨⟨by decide +kernel, by decide +kernel⟩, List.mem_of_getElem? (i := 492) (by decide +kernel), List.mem_of_getElem? (i := 2168) (by decide +kernel), List.mem_of_getElem? (i := 2169) (by decide +kernel)⟩
def lw_privs_12 : List (MethodName × Nat) := [(⟨"TimberHouse$Sheets", "lay", "(I)I"⟩, 19), (⟨"TimberHouse$Sheets", "layTree", "(IIIIII)V"⟩, 19), (⟨"TimberHouse$Sheets", "note", "(I)V"⟩, 19), (⟨"TimberHouse$Sheets", "layLeaf", "(IIIII)V"⟩, 19), (⟨"TimberHouse$Sheets", "firstAlike", "()I"⟩, 19), (⟨"TimberHouse$Sheets", "isAlike", "(I)Z"⟩, 19), (⟨"TimberHouse$Sheets", "cut", "(II)I"⟩, 19), (⟨"TimberHouse$Sheets", "takenAt", "(III)I"⟩, 19), (⟨"TimberHouse$Sheets", "rest", "(III)I"⟩, 19), (⟨"TimberHouse$Sheets", "left", "(I)I"⟩, 19), (⟨"TimberHouse$Sheets", "all", "(I)J"⟩, 19), (⟨"TimberHouse$Sheets", "bound", "()J"⟩, 19), (⟨"TimberHouse$Router", "target", "(IIIII)I"⟩, 14), (⟨"TimberHouse$Router", "onGrid", "(II)Z"⟩, 14), (⟨"TimberHouse$Router", "keep", "(IIIIZ)I"⟩, 14), (⟨"TimberHouse$Router", "tool", "(III)I"⟩, 14)]
theorem lw_r12 : ∀ q ∈ lw_privs_12, lw_okq q := List.forall_mem_cons.mpr ⟨lw_p176, List.forall_mem_cons.mpr ⟨lw_p177, List.forall_mem_cons.mpr ⟨lw_p178, List.forall_mem_cons.mpr ⟨lw_p179, List.forall_mem_cons.mpr ⟨lw_p180, List.forall_mem_cons.mpr ⟨lw_p181, List.forall_mem_cons.mpr ⟨lw_p182, List.forall_mem_cons.mpr ⟨lw_p183, List.forall_mem_cons.mpr ⟨lw_p184, List.forall_mem_cons.mpr ⟨lw_p185, List.forall_mem_cons.mpr ⟨lw_p186, List.forall_mem_cons.mpr ⟨lw_p187, List.forall_mem_cons.mpr ⟨lw_p188, List.forall_mem_cons.mpr ⟨lw_p189, List.forall_mem_cons.mpr ⟨lw_p190, List.forall_mem_cons.mpr ⟨lw_p191, fun _ h => absurd h List.not_mem_nil⟩⟩⟩⟩⟩⟩⟩⟩⟩⟩⟩⟩⟩⟩⟩⟩
theorem lw_p192 : lw_okq (⟨"TimberHouse$Router", "read", "()I"⟩, 14) := ⟨⟨by decide +kernel, by decide +kernel⟩, List.mem_of_getElem? (i := 492) (by decide +kernel), List.mem_of_getElem? (i := 2173) (by decide +kernel), List.mem_of_getElem? (i := 2174) (by decide +kernel)⟩
theorem lw_p193 : lw_okq (⟨"TimberHouse$Router", "statement", "(II)I"⟩, 14) := ⟨⟨by decide +kernel, by decide +kernel⟩, List.mem_of_getElem? (i := 492) (by decide +kernel), List.mem_of_getElem? (i := 2182) (by decide +kernel), List.mem_of_getElem? (i := 2183) (by decide +kernel)⟩
theorem lw_p194 : lw_okq (⟨"TimberHouse$Router", "close", "(I)I"⟩, 14) := ⟨⟨by decide +kernel, by decide +kernel⟩, List.mem_of_getElem? (i := 492) (by decide +kernel), List.mem_of_getElem? (i := 2187) (by decide +kernel), List.mem_of_getElem? (i := 2188) (by decide +kernel)⟩
theorem lw_p195 : lw_okq (⟨"TimberHouse$Router", "goal", "(II)I"⟩, 14) := ⟨⟨by decide +kernel, by decide +kernel⟩, List.mem_of_getElem? (i := 492) (by decide +kernel), List.mem_of_getElem? (i := 2191) (by decide +kernel), List.mem_of_getElem? (i := 2192) (by decide +kernel)⟩
theorem lw_p196 : lw_okq (⟨"TimberHouse$Router", "number", "(III)I"⟩, 14) := ⟨⟨by decide +kernel, by decide +kernel⟩, List.mem_of_getElem? (i := 492) (by decide +kernel), List.mem_of_getElem? (i := 2195) (by decide +kernel), List.mem_of_getElem? (i := 2196) (by decide +kernel)⟩
theorem lw_p197 : lw_okq (⟨"TimberHouse$Router", "run", "()I"⟩, 14) := ⟨⟨by decide +kernel, by decide +kernel⟩, List.mem_of_getElem? (i := 492) (by decide +kernel), List.mem_of_getElem? (i := 2202) (by decide +kernel), List.mem_of_getElem? (i := 2203) (by decide +kernel)⟩
theorem lw_p198 : lw_okq (⟨"TimberHouse$Router", "go", "(I)I"⟩, 14) := ⟨⟨by decide +kernel, by decide +kernel⟩, List.mem_of_getElem? (i := 492) (by decide +kernel), List.mem_of_getElem? (i := 2207) (by decide +kernel), List.mem_of_getElem? (i := 2208) (by decide +kernel)⟩
theorem lw_p199 : lw_okq (⟨"TimberHouse$Router", "way", "(II)I"⟩, 14) := ⟨⟨by decide +kernel, by decide +kernel⟩, List.mem_of_getElem? (i := 492) (by decide +kernel), List.mem_of_getElem? (i := 2211) (by decide +kernel), List.mem_of_getElem? (i := 2212) (by decide +kernel)⟩
theorem lw_p200 : lw_okq (⟨"TimberHouse$Router", "crashes", "()I"⟩, 14) := ⟨⟨by decide +kernel, by decide +kernel⟩, List.mem_of_getElem? (i := 492) (by decide +kernel), List.mem_of_getElem? (i := 2221) (by decide +kernel), List.mem_of_getElem? (i := 2222) (by decide +kernel)⟩
theorem lw_p201 : lw_okq (⟨"TimberHouse$Router", "highest", "([IIII)I"⟩, 14) := ⟨⟨by decide +kernel, by decide +kernel⟩, List.mem_of_getElem? (i := 492) (by decide +kernel), List.mem_of_getElem? (i := 2225) (by decide +kernel), List.mem_of_getElem? (i := 2226) (by decide +kernel)⟩
theorem lw_p202 : lw_okq (⟨"TimberHouse$Router", "low", "(II)I"⟩, 14) := ⟨⟨by decide +kernel, by decide +kernel⟩, List.mem_of_getElem? (i := 492) (by decide +kernel), List.mem_of_getElem? (i := 2229) (by decide +kernel), List.mem_of_getElem? (i := 2230) (by decide +kernel)⟩
theorem lw_p203 : lw_okq (⟨"TimberHouse$Router", "high", "(II)I"⟩, 14) := ⟨⟨by decide +kernel, by decide +kernel⟩, List.mem_of_getElem? (i := 492) (by decide +kernel), List.mem_of_getElem? (i := 2233) (by decide +kernel), List.mem_of_getElem? (i := 2234) (by decide +kernel)⟩
theorem lw_p204 : lw_okq (⟨"TimberHouse$Router", "breaches", "()I"⟩, 14) := ⟨⟨by decide +kernel, by decide +kernel⟩, List.mem_of_getElem? (i := 492) (by decide +kernel), List.mem_of_getElem? (i := 2241) (by decide +kernel), List.mem_of_getElem? (i := 2242) (by decide +kernel)⟩
theorem lw_p205 : lw_okq (⟨"TimberHouse$Router", "cutDisc", "()V"⟩, 14) := ⟨⟨by decide +kernel, by decide +kernel⟩, List.mem_of_getElem? (i := 492) (by decide +kernel), List.mem_of_getElem? (i := 2245) (by decide +kernel), List.mem_of_getElem? (i := 2246) (by decide +kernel)⟩
theorem lw_p206 : lw_okq (⟨"TimberHouse$Router", "about", "(I)I"⟩, 14) := ⟨⟨by decide +kernel, by decide +kernel⟩, List.mem_of_getElem? (i := 492) (by decide +kernel), List.mem_of_getElem? (i := 2249) (by decide +kernel), List.mem_of_getElem? (i := 2250) (by decide +kernel)⟩
theorem lw_p207 : lw_okq (⟨"TimberHouse$Router", "cell", "(III)I"⟩, 14) := ⟨⟨by decide +kernel, by decide +kernel⟩, List.mem_of_getElem? (i := 492) (by decide +kernel), List.mem_of_getElem? (i := 2253) (by decide +kernel), List.mem_of_getElem? (i := 2254) (by decide +kernel)⟩
def lw_privs_13 : List (MethodName × Nat) := [(⟨"TimberHouse$Router", "read", "()I"⟩, 14), (⟨"TimberHouse$Router", "statement", "(II)I"⟩, 14), (⟨"TimberHouse$Router", "close", "(I)I"⟩, 14), (⟨"TimberHouse$Router", "goal", "(II)I"⟩, 14), (⟨"TimberHouse$Router", "number", "(III)I"⟩, 14), (⟨"TimberHouse$Router", "run", "()I"⟩, 14), (⟨"TimberHouse$Router", "go", "(I)I"⟩, 14), (⟨"TimberHouse$Router", "way", "(II)I"⟩, 14), (⟨"TimberHouse$Router", "crashes", "()I"⟩, 14), (⟨"TimberHouse$Router", "highest", "([IIII)I"⟩, 14), (⟨"TimberHouse$Router", "low", "(II)I"⟩, 14), (⟨"TimberHouse$Router", "high", "(II)I"⟩, 14), (⟨"TimberHouse$Router", "breaches", "()I"⟩, 14), (⟨"TimberHouse$Router", "cutDisc", "()V"⟩, 14), (⟨"TimberHouse$Router", "about", "(I)I"⟩, 14), (⟨"TimberHouse$Router", "cell", "(III)I"⟩, 14)]
theorem lw_r13 : ∀ q ∈ lw_privs_13, lw_okq q := List.forall_mem_cons.mpr ⟨lw_p192, List.forall_mem_cons.mpr ⟨lw_p193, List.forall_mem_cons.mpr ⟨lw_p194, List.forall_mem_cons.mpr ⟨lw_p195, List.forall_mem_cons.mpr ⟨lw_p196, List.forall_mem_cons.mpr ⟨lw_p197, List.forall_mem_cons.mpr ⟨lw_p198, List.forall_mem_cons.mpr ⟨lw_p199, List.forall_mem_cons.mpr ⟨lw_p200, List.forall_mem_cons.mpr ⟨lw_p201, List.forall_mem_cons.mpr ⟨lw_p202, List.forall_mem_cons.mpr ⟨lw_p203, List.forall_mem_cons.mpr ⟨lw_p204, List.forall_mem_cons.mpr ⟨lw_p205, List.forall_mem_cons.mpr ⟨lw_p206, List.forall_mem_cons.mpr ⟨lw_p207, fun _ h => absurd h List.not_mem_nil⟩⟩⟩⟩⟩⟩⟩⟩⟩⟩⟩⟩⟩⟩⟩⟩
theorem lw_p208 : lw_okq (⟨"TimberHouse$Router", "check", "(I)I"⟩, 14) := ⟨⟨by decide +kernel, by decide +kernel⟩, List.mem_of_getElem? (i := 492) (by decide +kernel), List.mem_of_getElem? (i := 2257) (by decide +kernel), List.mem_of_getElem? (i := 2258) (by decide +kernel)⟩
theorem lw_p209 : lw_okq (⟨"TimberHouse$Router", "reached", "(I)I"⟩, 14) := ⟨⟨by decide +kernel, by decide +kernel⟩, List.mem_of_getElem? (i := 492) (by decide +kernel), List.mem_of_getElem? (i := 2261) (by decide +kernel), List.mem_of_getElem? (i := 2262) (by decide +kernel)⟩
theorem lw_p210 : lw_okq (⟨"TimberHouse$Router", "lowestMark", "(III)I"⟩, 14) := ⟨⟨by decide +kernel, by decide +kernel⟩, List.mem_of_getElem? (i := 492) (by decide +kernel), List.mem_of_getElem? (i := 2265) (by decide +kernel), List.mem_of_getElem? (i := 2266) (by decide +kernel)⟩
theorem lw_p211 : lw_okq (⟨"TimberHouse$Router", "pieces", "()I"⟩, 14) := ⟨⟨by decide +kernel, by decide +kernel⟩, List.mem_of_getElem? (i := 492) (by decide +kernel), List.mem_of_getElem? (i := 2269) (by decide +kernel), List.mem_of_getElem? (i := 2270) (by decide +kernel)⟩
theorem lw_p212 : lw_okq (⟨"TimberHouse$Router", "isLoose", "(II)Z"⟩, 14) := ⟨⟨by decide +kernel, by decide +kernel⟩, List.mem_of_getElem? (i := 492) (by decide +kernel), List.mem_of_getElem? (i := 2273) (by decide +kernel), List.mem_of_getElem? (i := 2274) (by decide +kernel)⟩
theorem lw_p213 : lw_okq (⟨"TimberHouse$Router", "markPiece", "(II)V"⟩, 14) := ⟨⟨by decide +kernel, by decide +kernel⟩, List.mem_of_getElem? (i := 492) (by decide +kernel), List.mem_of_getElem? (i := 2277) (by decide +kernel), List.mem_of_getElem? (i := 2278) (by decide +kernel)⟩
theorem lw_p214 : lw_okq (⟨"TimberHouse$Router", "mark", "(III)I"⟩, 14) := ⟨⟨by decide +kernel, by decide +kernel⟩, List.mem_of_getElem? (i := 492) (by decide +kernel), List.mem_of_getElem? (i := 2281) (by decide +kernel), List.mem_of_getElem? (i := 2282) (by decide +kernel)⟩
theorem lw_p215 : lw_okq (⟨"TimberHouse$Router", "blank", "()I"⟩, 14) := ⟨⟨by decide +kernel, by decide +kernel⟩, List.mem_of_getElem? (i := 492) (by decide +kernel), List.mem_of_getElem? (i := 2285) (by decide +kernel), List.mem_of_getElem? (i := 2286) (by decide +kernel)⟩
theorem lw_p216 : lw_okq (⟨"TimberHouse$Plans", "machine", "(I)I"⟩, 19) := ⟨⟨by decide +kernel, by decide +kernel⟩, List.mem_of_getElem? (i := 551) (by decide +kernel), List.mem_of_getElem? (i := 2294) (by decide +kernel), List.mem_of_getElem? (i := 2295) (by decide +kernel)⟩
theorem lw_p217 : lw_okq (⟨"TimberHouse$Plans", "out", "(III)I"⟩, 19) := ⟨⟨by decide +kernel, by decide +kernel⟩, List.mem_of_getElem? (i := 551) (by decide +kernel), List.mem_of_getElem? (i := 2300) (by decide +kernel), List.mem_of_getElem? (i := 2301) (by decide +kernel)⟩
theorem lw_p218 : lw_okq (⟨"TimberHouse$Plans", "job", "(II)I"⟩, 19) := ⟨⟨by decide +kernel, by decide +kernel⟩, List.mem_of_getElem? (i := 551) (by decide +kernel), List.mem_of_getElem? (i := 2305) (by decide +kernel), List.mem_of_getElem? (i := 2306) (by decide +kernel)⟩
theorem lw_p219 : lw_okq (⟨"TimberHouse$Plans", "due", "(II)I"⟩, 19) := ⟨⟨by decide +kernel, by decide +kernel⟩, List.mem_of_getElem? (i := 551) (by decide +kernel), List.mem_of_getElem? (i := 2309) (by decide +kernel), List.mem_of_getElem? (i := 2310) (by decide +kernel)⟩
theorem lw_p220 : lw_okq (⟨"TimberHouse$Plans", "step", "(IIII)I"⟩, 19) := ⟨⟨by decide +kernel, by decide +kernel⟩, List.mem_of_getElem? (i := 551) (by decide +kernel), List.mem_of_getElem? (i := 2313) (by decide +kernel), List.mem_of_getElem? (i := 2314) (by decide +kernel)⟩
theorem lw_p221 : lw_okq (⟨"TimberHouse$Plans", "run", "(I)I"⟩, 19) := ⟨⟨by decide +kernel, by decide +kernel⟩, List.mem_of_getElem? (i := 551) (by decide +kernel), List.mem_of_getElem? (i := 2319) (by decide +kernel), List.mem_of_getElem? (i := 2320) (by decide +kernel)⟩
theorem lw_p222 : lw_okq (⟨"TimberHouse$Plans", "allFit", "()Z"⟩, 19) := ⟨⟨by decide +kernel, by decide +kernel⟩, List.mem_of_getElem? (i := 551) (by decide +kernel), List.mem_of_getElem? (i := 2323) (by decide +kernel), List.mem_of_getElem? (i := 2324) (by decide +kernel)⟩
theorem lw_p223 : lw_okq (⟨"TimberHouse$Plans", "fits", "(I)Z"⟩, 19) := ⟨⟨by decide +kernel, by decide +kernel⟩, List.mem_of_getElem? (i := 551) (by decide +kernel), List.mem_of_getElem? (i := 2327) (by decide +kernel), List.mem_of_getElem? (i := 2328) (by decide +kernel)⟩
def lw_privs_14 : List (MethodName × Nat) := [(⟨"TimberHouse$Router", "check", "(I)I"⟩, 14), (⟨"TimberHouse$Router", "reached", "(I)I"⟩, 14), (⟨"TimberHouse$Router", "lowestMark", "(III)I"⟩, 14), (⟨"TimberHouse$Router", "pieces", "()I"⟩, 14), (⟨"TimberHouse$Router", "isLoose", "(II)Z"⟩, 14), (⟨"TimberHouse$Router", "markPiece", "(II)V"⟩, 14), (⟨"TimberHouse$Router", "mark", "(III)I"⟩, 14), (⟨"TimberHouse$Router", "blank", "()I"⟩, 14), (⟨"TimberHouse$Plans", "machine", "(I)I"⟩, 19), (⟨"TimberHouse$Plans", "out", "(III)I"⟩, 19), (⟨"TimberHouse$Plans", "job", "(II)I"⟩, 19), (⟨"TimberHouse$Plans", "due", "(II)I"⟩, 19), (⟨"TimberHouse$Plans", "step", "(IIII)I"⟩, 19), (⟨"TimberHouse$Plans", "run", "(I)I"⟩, 19), (⟨"TimberHouse$Plans", "allFit", "()Z"⟩, 19), (⟨"TimberHouse$Plans", "fits", "(I)Z"⟩, 19)]
theorem lw_r14 : ∀ q ∈ lw_privs_14, lw_okq q := List.forall_mem_cons.mpr ⟨lw_p208, List.forall_mem_cons.mpr ⟨lw_p209, List.forall_mem_cons.mpr ⟨lw_p210, List.forall_mem_cons.mpr ⟨lw_p211, List.forall_mem_cons.mpr ⟨lw_p212, List.forall_mem_cons.mpr ⟨lw_p213, List.forall_mem_cons.mpr ⟨lw_p214, List.forall_mem_cons.mpr ⟨lw_p215, List.forall_mem_cons.mpr ⟨lw_p216, List.forall_mem_cons.mpr ⟨lw_p217, List.forall_mem_cons.mpr ⟨lw_p218, List.forall_mem_cons.mpr ⟨lw_p219, List.forall_mem_cons.mpr ⟨lw_p220, List.forall_mem_cons.mpr ⟨lw_p221, List.forall_mem_cons.mpr ⟨lw_p222, List.forall_mem_cons.mpr ⟨lw_p223, fun _ h => absurd h List.not_mem_nil⟩⟩⟩⟩⟩⟩⟩⟩⟩⟩⟩⟩⟩⟩⟩⟩
theorem lw_p224 : lw_okq (⟨"TimberHouse$Plans", "hasMachine", "(I)Z"⟩, 19) := ⟨⟨by decide +kernel, by decide +kernel⟩, List.mem_of_getElem? (i := 551) (by decide +kernel), List.mem_of_getElem? (i := 2331) (by decide +kernel), List.mem_of_getElem? (i := 2332) (by decide +kernel)⟩
theorem lw_p225 : lw_okq (⟨"TimberHouse$Plans", "costAlone", "(I)I"⟩, 19) := ⟨⟨by decide +kernel, by decide +kernel⟩, List.mem_of_getElem? (i := 551) (by decide +kernel), List.mem_of_getElem? (i := 2335) (by decide +kernel), List.mem_of_getElem? (i := 2336) (by decide +kernel)⟩
theorem lw_p226 : lw_okq (⟨"TimberHouse$Plans", "clearPlaces", "()V"⟩, 19) := ⟨⟨by decide +kernel, by decide +kernel⟩, List.mem_of_getElem? (i := 551) (by decide +kernel), List.mem_of_getElem? (i := 2339) (by decide +kernel), List.mem_of_getElem? (i := 2340) (by decide +kernel)⟩
theorem lw_p227 : lw_okq (⟨"TimberHouse$Plans", "place", "(I)I"⟩, 19) := ⟨⟨by decide +kernel, by decide +kernel⟩, List.mem_of_getElem? (i := 551) (by decide +kernel), List.mem_of_getElem? (i := 2344) (by decide +kernel), List.mem_of_getElem? (i := 2345) (by decide +kernel)⟩
theorem lw_p228 : lw_okq (⟨"TimberHouse$Plans", "placeStep", "(II)V"⟩, 19) := ⟨⟨by decide +kernel, by decide +kernel⟩, List.mem_of_getElem? (i := 551) (by decide +kernel), List.mem_of_getElem? (i := 2348) (by decide +kernel), List.mem_of_getElem? (i := 2349) (by decide +kernel)⟩
theorem lw_p229 : lw_okq (⟨"TimberHouse$Plans", "firstFree", "(III)I"⟩, 19) := ⟨⟨by decide +kernel, by decide +kernel⟩, List.mem_of_getElem? (i := 551) (by decide +kernel), List.mem_of_getElem? (i := 2353) (by decide +kernel), List.mem_of_getElem? (i := 2354) (by decide +kernel)⟩
theorem lw_p230 : lw_okq (⟨"TimberHouse$Plans", "behindOuts", "(III)I"⟩, 19) := ⟨⟨by decide +kernel, by decide +kernel⟩, List.mem_of_getElem? (i := 551) (by decide +kernel), List.mem_of_getElem? (i := 2357) (by decide +kernel), List.mem_of_getElem? (i := 2358) (by decide +kernel)⟩
theorem lw_p231 : lw_okq (⟨"TimberHouse$Plans", "costOf", "(II)I"⟩, 19) := ⟨⟨by decide +kernel, by decide +kernel⟩, List.mem_of_getElem? (i := 551) (by decide +kernel), List.mem_of_getElem? (i := 2361) (by decide +kernel), List.mem_of_getElem? (i := 2362) (by decide +kernel)⟩
theorem lw_p232 : lw_okq (⟨"TimberHouse$Plans", "orderByDue", "()V"⟩, 19) := ⟨⟨by decide +kernel, by decide +kernel⟩, List.mem_of_getElem? (i := 551) (by decide +kernel), List.mem_of_getElem? (i := 2366) (by decide +kernel), List.mem_of_getElem? (i := 2367) (by decide +kernel)⟩
theorem lw_p233 : lw_okq (⟨"TimberHouse$Plans", "placeOrder", "(II)I"⟩, 19) := ⟨⟨by decide +kernel, by decide +kernel⟩, List.mem_of_getElem? (i := 551) (by decide +kernel), List.mem_of_getElem? (i := 2370) (by decide +kernel), List.mem_of_getElem? (i := 2371) (by decide +kernel)⟩
theorem lw_p234 : lw_okq (⟨"TimberHouse$Plans", "tryFrom", "(IIII)Z"⟩, 19) := ⟨⟨by decide +kernel, by decide +kernel⟩, List.mem_of_getElem? (i := 551) (by decide +kernel), List.mem_of_getElem? (i := 2374) (by decide +kernel), List.mem_of_getElem? (i := 2375) (by decide +kernel)⟩
theorem lw_p235 : lw_okq (⟨"TimberHouse$Plans", "takeOut", "(I)V"⟩, 19) := ⟨⟨by decide +kernel, by decide +kernel⟩, List.mem_of_getElem? (i := 551) (by decide +kernel), List.mem_of_getElem? (i := 2379) (by decide +kernel), List.mem_of_getElem? (i := 2380) (by decide +kernel)⟩
theorem lw_p236 : lw_okq (⟨"TimberHouse$Plans", "keepPlaced", "(I)V"⟩, 19) := ⟨⟨by decide +kernel, by decide +kernel⟩, List.mem_of_getElem? (i := 551) (by decide +kernel), List.mem_of_getElem? (i := 2383) (by decide +kernel), List.mem_of_getElem? (i := 2384) (by decide +kernel)⟩
theorem lw_p237 : lw_okq (⟨"TimberHouse$Plans", "improve", "(I)I"⟩, 19) := ⟨⟨by decide +kernel, by decide +kernel⟩, List.mem_of_getElem? (i := 551) (by decide +kernel), List.mem_of_getElem? (i := 2388) (by decide +kernel), List.mem_of_getElem? (i := 2389) (by decide +kernel)⟩
theorem lw_p238 : lw_okq (⟨"TimberHouse$Plans", "draw", "()I"⟩, 19) := ⟨⟨by decide +kernel, by decide +kernel⟩, List.mem_of_getElem? (i := 551) (by decide +kernel), List.mem_of_getElem? (i := 2393) (by decide +kernel), List.mem_of_getElem? (i := 2394) (by decide +kernel)⟩
theorem lw_p239 : lw_okq (⟨"TimberHouse$Plans", "swap", "(II)V"⟩, 19) := ⟨⟨by decide +kernel, by decide +kernel⟩, List.mem_of_getElem? (i := 551) (by decide +kernel), List.mem_of_getElem? (i := 2399) (by decide +kernel), List.mem_of_getElem? (i := 2400) (by decide +kernel)⟩
def lw_privs_15 : List (MethodName × Nat) := [(⟨"TimberHouse$Plans", "hasMachine", "(I)Z"⟩, 19), (⟨"TimberHouse$Plans", "costAlone", "(I)I"⟩, 19), (⟨"TimberHouse$Plans", "clearPlaces", "()V"⟩, 19), (⟨"TimberHouse$Plans", "place", "(I)I"⟩, 19), (⟨"TimberHouse$Plans", "placeStep", "(II)V"⟩, 19), (⟨"TimberHouse$Plans", "firstFree", "(III)I"⟩, 19), (⟨"TimberHouse$Plans", "behindOuts", "(III)I"⟩, 19), (⟨"TimberHouse$Plans", "costOf", "(II)I"⟩, 19), (⟨"TimberHouse$Plans", "orderByDue", "()V"⟩, 19), (⟨"TimberHouse$Plans", "placeOrder", "(II)I"⟩, 19), (⟨"TimberHouse$Plans", "tryFrom", "(IIII)Z"⟩, 19), (⟨"TimberHouse$Plans", "takeOut", "(I)V"⟩, 19), (⟨"TimberHouse$Plans", "keepPlaced", "(I)V"⟩, 19), (⟨"TimberHouse$Plans", "improve", "(I)I"⟩, 19), (⟨"TimberHouse$Plans", "draw", "()I"⟩, 19), (⟨"TimberHouse$Plans", "swap", "(II)V"⟩, 19)]
theorem lw_r15 : ∀ q ∈ lw_privs_15, lw_okq q := List.forall_mem_cons.mpr ⟨lw_p224, List.forall_mem_cons.mpr ⟨lw_p225, List.forall_mem_cons.mpr ⟨lw_p226, List.forall_mem_cons.mpr ⟨lw_p227, List.forall_mem_cons.mpr ⟨lw_p228, List.forall_mem_cons.mpr ⟨lw_p229, List.forall_mem_cons.mpr ⟨lw_p230, List.forall_mem_cons.mpr ⟨lw_p231, List.forall_mem_cons.mpr ⟨lw_p232, List.forall_mem_cons.mpr ⟨lw_p233, List.forall_mem_cons.mpr ⟨lw_p234, List.forall_mem_cons.mpr ⟨lw_p235, List.forall_mem_cons.mpr ⟨lw_p236, List.forall_mem_cons.mpr ⟨lw_p237, List.forall_mem_cons.mpr ⟨lw_p238, List.forall_mem_cons.mpr ⟨lw_p239, fun _ h => absurd h List.not_mem_nil⟩⟩⟩⟩⟩⟩⟩⟩⟩⟩⟩⟩⟩⟩⟩⟩
theorem lw_p240 : lw_okq (⟨"TimberHouse$Plans", "at", "(II)I"⟩, 19) := ⟨⟨by decide +kernel, by decide +kernel⟩, List.mem_of_getElem? (i := 551) (by decide +kernel), List.mem_of_getElem? (i := 2403) (by decide +kernel), List.mem_of_getElem? (i := 2404) (by decide +kernel)⟩
theorem lw_p241 : lw_okq (⟨"TimberHouse$Plans", "order", "(I)I"⟩, 19) := ⟨⟨by decide +kernel, by decide +kernel⟩, List.mem_of_getElem? (i := 551) (by decide +kernel), List.mem_of_getElem? (i := 2407) (by decide +kernel), List.mem_of_getElem? (i := 2408) (by decide +kernel)⟩
theorem lw_p242 : lw_okq (⟨"TimberHouse$Plans", "about", "(I)I"⟩, 19) := ⟨⟨by decide +kernel, by decide +kernel⟩, List.mem_of_getElem? (i := 551) (by decide +kernel), List.mem_of_getElem? (i := 2411) (by decide +kernel), List.mem_of_getElem? (i := 2412) (by decide +kernel)⟩
theorem lw_p243 : lw_okq (⟨"TimberHouse$Plans", "aloneOf", "(I)I"⟩, 19) := ⟨⟨by decide +kernel, by decide +kernel⟩, List.mem_of_getElem? (i := 551) (by decide +kernel), List.mem_of_getElem? (i := 2415) (by decide +kernel), List.mem_of_getElem? (i := 2416) (by decide +kernel)⟩
theorem lw_p244 : lw_okq (⟨"TimberHouse$Plans", "promise", "(I)I"⟩, 19) := ⟨⟨by decide +kernel, by decide +kernel⟩, List.mem_of_getElem? (i := 551) (by decide +kernel), List.mem_of_getElem? (i := 2419) (by decide +kernel), List.mem_of_getElem? (i := 2420) (by decide +kernel)⟩
theorem lw_p245 : lw_okq (⟨"TimberHouse$Plans", "clash", "(I)I"⟩, 19) := ⟨⟨by decide +kernel, by decide +kernel⟩, List.mem_of_getElem? (i := 551) (by decide +kernel), List.mem_of_getElem? (i := 2423) (by decide +kernel), List.mem_of_getElem? (i := 2424) (by decide +kernel)⟩
theorem lw_p246 : lw_okq (⟨"TimberHouse$Plans", "costOfTwo", "(II)I"⟩, 19) := ⟨⟨by decide +kernel, by decide +kernel⟩, List.mem_of_getElem? (i := 551) (by decide +kernel), List.mem_of_getElem? (i := 2427) (by decide +kernel), List.mem_of_getElem? (i := 2428) (by decide +kernel)⟩
theorem lw_p247 : lw_okq (⟨"TimberHouse$Plans", "check", "()I"⟩, 19) := ⟨⟨by decide +kernel, by decide +kernel⟩, List.mem_of_getElem? (i := 551) (by decide +kernel), List.mem_of_getElem? (i := 2431) (by decide +kernel), List.mem_of_getElem? (i := 2432) (by decide +kernel)⟩
theorem lw_p248 : lw_okq (⟨"TimberHouse$Plans", "breaks", "(II)Z"⟩, 19) := ⟨⟨by decide +kernel, by decide +kernel⟩, List.mem_of_getElem? (i := 551) (by decide +kernel), List.mem_of_getElem? (i := 2435) (by decide +kernel), List.mem_of_getElem? (i := 2436) (by decide +kernel)⟩
theorem lw_p249 : lw_okq (⟨"TimberHouse$Plans", "beginsTooEarly", "(I)Z"⟩, 19) := ⟨⟨by decide +kernel, by decide +kernel⟩, List.mem_of_getElem? (i := 551) (by decide +kernel), List.mem_of_getElem? (i := 2439) (by decide +kernel), List.mem_of_getElem? (i := 2440) (by decide +kernel)⟩
theorem lw_p250 : lw_okq (⟨"TimberHouse$Plans", "planEnd", "(I)I"⟩, 19) := ⟨⟨by decide +kernel, by decide +kernel⟩, List.mem_of_getElem? (i := 551) (by decide +kernel), List.mem_of_getElem? (i := 2443) (by decide +kernel), List.mem_of_getElem? (i := 2444) (by decide +kernel)⟩
theorem lw_p251 : lw_okq (⟨"TimberHouse$Plans", "sharesWithLesser", "(I)Z"⟩, 19) := ⟨⟨by decide +kernel, by decide +kernel⟩, List.mem_of_getElem? (i := 551) (by decide +kernel), List.mem_of_getElem? (i := 2447) (by decide +kernel), List.mem_of_getElem? (i := 2448) (by decide +kernel)⟩
theorem lw_p252 : lw_okq (⟨"TimberHouse$Plans", "sharesWithOut", "(I)Z"⟩, 19) := ⟨⟨by decide +kernel, by decide +kernel⟩, List.mem_of_getElem? (i := 551) (by decide +kernel), List.mem_of_getElem? (i := 2451) (by decide +kernel), List.mem_of_getElem? (i := 2452) (by decide +kernel)⟩
theorem lw_p253 : lw_okq (⟨"TimberHouse$Prices", "read", "()I"⟩, 21) := ⟨⟨by decide +kernel, by decide +kernel⟩, List.mem_of_getElem? (i := 620) (by decide +kernel), List.mem_of_getElem? (i := 2462) (by decide +kernel), List.mem_of_getElem? (i := 2463) (by decide +kernel)⟩
theorem lw_p254 : lw_okq (⟨"TimberHouse$Prices", "readSigns", "()I"⟩, 21) := ⟨⟨by decide +kernel, by decide +kernel⟩, List.mem_of_getElem? (i := 620) (by decide +kernel), List.mem_of_getElem? (i := 2466) (by decide +kernel), List.mem_of_getElem? (i := 2467) (by decide +kernel)⟩
theorem lw_p255 : lw_okq (⟨"TimberHouse$Prices", "fact", "(III)I"⟩, 21) := ⟨⟨by decide +kernel, by decide +kernel⟩, List.mem_of_getElem? (i := 620) (by decide +kernel), List.mem_of_getElem? (i := 2485) (by decide +kernel), List.mem_of_getElem? (i := 2486) (by decide +kernel)⟩
def lw_privs_16 : List (MethodName × Nat) := [(⟨"TimberHouse$Plans", "at", "(II)I"⟩, 19), (⟨"TimberHouse$Plans", "order", "(I)I"⟩, 19), (⟨"TimberHouse$Plans", "about", "(I)I"⟩, 19), (⟨"TimberHouse$Plans", "aloneOf", "(I)I"⟩, 19), (⟨"TimberHouse$Plans", "promise", "(I)I"⟩, 19), (⟨"TimberHouse$Plans", "clash", "(I)I"⟩, 19), (⟨"TimberHouse$Plans", "costOfTwo", "(II)I"⟩, 19), (⟨"TimberHouse$Plans", "check", "()I"⟩, 19), (⟨"TimberHouse$Plans", "breaks", "(II)Z"⟩, 19), (⟨"TimberHouse$Plans", "beginsTooEarly", "(I)Z"⟩, 19), (⟨"TimberHouse$Plans", "planEnd", "(I)I"⟩, 19), (⟨"TimberHouse$Plans", "sharesWithLesser", "(I)Z"⟩, 19), (⟨"TimberHouse$Plans", "sharesWithOut", "(I)Z"⟩, 19), (⟨"TimberHouse$Prices", "read", "()I"⟩, 21), (⟨"TimberHouse$Prices", "readSigns", "()I"⟩, 21), (⟨"TimberHouse$Prices", "fact", "(III)I"⟩, 21)]
theorem lw_r16 : ∀ q ∈ lw_privs_16, lw_okq q := List.forall_mem_cons.mpr ⟨lw_p240, List.forall_mem_cons.mpr ⟨lw_p241, List.forall_mem_cons.mpr ⟨lw_p242, List.forall_mem_cons.mpr ⟨lw_p243, List.forall_mem_cons.mpr ⟨lw_p244, List.forall_mem_cons.mpr ⟨lw_p245, List.forall_mem_cons.mpr ⟨lw_p246, List.forall_mem_cons.mpr ⟨lw_p247, List.forall_mem_cons.mpr ⟨lw_p248, List.forall_mem_cons.mpr ⟨lw_p249, List.forall_mem_cons.mpr ⟨lw_p250, List.forall_mem_cons.mpr ⟨lw_p251, List.forall_mem_cons.mpr ⟨lw_p252, List.forall_mem_cons.mpr ⟨lw_p253, List.forall_mem_cons.mpr ⟨lw_p254, List.forall_mem_cons.mpr ⟨lw_p255, fun _ h => absurd h List.not_mem_nil⟩⟩⟩⟩⟩⟩⟩⟩⟩⟩⟩⟩⟩⟩⟩⟩
theorem lw_p256 : lw_okq (⟨"TimberHouse$Prices", "forget", "(I)I"⟩, 21) := ⟨⟨by decide +kernel, by decide +kernel⟩, List.mem_of_getElem? (i := 620) (by decide +kernel), List.mem_of_getElem? (i := 2494) (by decide +kernel), List.mem_of_getElem? (i := 2495) (by decide +kernel)⟩
theorem lw_p257 : lw_okq (⟨"TimberHouse$Prices", "reckon", "()I"⟩, 21) := ⟨⟨by decide +kernel, by decide +kernel⟩, List.mem_of_getElem? (i := 620) (by decide +kernel), List.mem_of_getElem? (i := 2498) (by decide +kernel), List.mem_of_getElem? (i := 2499) (by decide +kernel)⟩
theorem lw_p258 : lw_okq (⟨"TimberHouse$Prices", "end", "(II)I"⟩, 21) := ⟨⟨by decide +kernel, by decide +kernel⟩, List.mem_of_getElem? (i := 620) (by decide +kernel), List.mem_of_getElem? (i := 2502) (by decide +kernel), List.mem_of_getElem? (i := 2503) (by decide +kernel)⟩
theorem lw_p259 : lw_okq (⟨"TimberHouse$Prices", "tooGreat", "(JJ)I"⟩, 21) := ⟨⟨by decide +kernel, by decide +kernel⟩, List.mem_of_getElem? (i := 620) (by decide +kernel), List.mem_of_getElem? (i := 2506) (by decide +kernel), List.mem_of_getElem? (i := 2507) (by decide +kernel)⟩
theorem lw_p260 : lw_okq (⟨"TimberHouse$Prices", "lay", "(I)I"⟩, 21) := ⟨⟨by decide +kernel, by decide +kernel⟩, List.mem_of_getElem? (i := 620) (by decide +kernel), List.mem_of_getElem? (i := 2514) (by decide +kernel), List.mem_of_getElem? (i := 2515) (by decide +kernel)⟩
theorem lw_p261 : lw_okq (⟨"TimberHouse$Prices", "round", "()I"⟩, 21) := ⟨⟨by decide +kernel, by decide +kernel⟩, List.mem_of_getElem? (i := 620) (by decide +kernel), List.mem_of_getElem? (i := 2518) (by decide +kernel), List.mem_of_getElem? (i := 2519) (by decide +kernel)⟩
theorem lw_p262 : lw_okq (⟨"TimberHouse$Prices", "ofTwo", "(I)I"⟩, 21) := ⟨⟨by decide +kernel, by decide +kernel⟩, List.mem_of_getElem? (i := 620) (by decide +kernel), List.mem_of_getElem? (i := 2525) (by decide +kernel), List.mem_of_getElem? (i := 2526) (by decide +kernel)⟩
theorem lw_p263 : lw_okq (⟨"TimberHouse$Prices", "cents", "()J"⟩, 21) := ⟨⟨by decide +kernel, by decide +kernel⟩, List.mem_of_getElem? (i := 620) (by decide +kernel), List.mem_of_getElem? (i := 2529) (by decide +kernel), List.mem_of_getElem? (i := 2530) (by decide +kernel)⟩
theorem lw_p264 : lw_okq (⟨"TimberHouse$Prices", "roundedTotal", "()J"⟩, 21) := ⟨⟨by decide +kernel, by decide +kernel⟩, List.mem_of_getElem? (i := 620) (by decide +kernel), List.mem_of_getElem? (i := 2533) (by decide +kernel), List.mem_of_getElem? (i := 2534) (by decide +kernel)⟩
theorem lw_p265 : lw_okq (⟨"TimberHouse$Prices", "line", "(II)J"⟩, 21) := ⟨⟨by decide +kernel, by decide +kernel⟩, List.mem_of_getElem? (i := 620) (by decide +kernel), List.mem_of_getElem? (i := 2537) (by decide +kernel), List.mem_of_getElem? (i := 2538) (by decide +kernel)⟩
theorem lw_p266 : lw_okq (⟨"TimberHouse$Prices", "changed", "(III)J"⟩, 21) := ⟨⟨by decide +kernel, by decide +kernel⟩, List.mem_of_getElem? (i := 620) (by decide +kernel), List.mem_of_getElem? (i := 2541) (by decide +kernel), List.mem_of_getElem? (i := 2542) (by decide +kernel)⟩
theorem lw_p267 : lw_okq (⟨"TimberHouse$Prices", "currency", "(III)I"⟩, 21) := ⟨⟨by decide +kernel, by decide +kernel⟩, List.mem_of_getElem? (i := 620) (by decide +kernel), List.mem_of_getElem? (i := 2545) (by decide +kernel), List.mem_of_getElem? (i := 2546) (by decide +kernel)⟩
theorem lw_p268 : lw_okq (⟨"TimberHouse$Prices", "centsAt", "(I)J"⟩, 21) := ⟨⟨by decide +kernel, by decide +kernel⟩, List.mem_of_getElem? (i := 620) (by decide +kernel), List.mem_of_getElem? (i := 2550) (by decide +kernel), List.mem_of_getElem? (i := 2551) (by decide +kernel)⟩
theorem lw_p269 : lw_okq (⟨"TimberHouse$Prices", "atDay", "(JI)J"⟩, 21) := ⟨⟨by decide +kernel, by decide +kernel⟩, List.mem_of_getElem? (i := 620) (by decide +kernel), List.mem_of_getElem? (i := 2554) (by decide +kernel), List.mem_of_getElem? (i := 2555) (by decide +kernel)⟩
theorem lw_p270 : lw_okq (⟨"TimberHouse$Prices", "offer", "(I)I"⟩, 21) := ⟨⟨by decide +kernel, by decide +kernel⟩, List.mem_of_getElem? (i := 620) (by decide +kernel), List.mem_of_getElem? (i := 2558) (by decide +kernel), List.mem_of_getElem? (i := 2559) (by decide +kernel)⟩
theorem lw_p271 : lw_okq (⟨"TimberHouse$Prices", "offered", "(II)J"⟩, 21) := ⟨⟨by decide +kernel, by decide +kernel⟩, List.mem_of_getElem? (i := 620) (by decide +kernel), List.mem_of_getElem? (i := 2562) (by decide +kernel), List.mem_of_getElem? (i := 2563) (by decide +kernel)⟩
def lw_privs_17 : List (MethodName × Nat) := [(⟨"TimberHouse$Prices", "forget", "(I)I"⟩, 21), (⟨"TimberHouse$Prices", "reckon", "()I"⟩, 21), (⟨"TimberHouse$Prices", "end", "(II)I"⟩, 21), (⟨"TimberHouse$Prices", "tooGreat", "(JJ)I"⟩, 21), (⟨"TimberHouse$Prices", "lay", "(I)I"⟩, 21), (⟨"TimberHouse$Prices", "round", "()I"⟩, 21), (⟨"TimberHouse$Prices", "ofTwo", "(I)I"⟩, 21), (⟨"TimberHouse$Prices", "cents", "()J"⟩, 21), (⟨"TimberHouse$Prices", "roundedTotal", "()J"⟩, 21), (⟨"TimberHouse$Prices", "line", "(II)J"⟩, 21), (⟨"TimberHouse$Prices", "changed", "(III)J"⟩, 21), (⟨"TimberHouse$Prices", "currency", "(III)I"⟩, 21), (⟨"TimberHouse$Prices", "centsAt", "(I)J"⟩, 21), (⟨"TimberHouse$Prices", "atDay", "(JI)J"⟩, 21), (⟨"TimberHouse$Prices", "offer", "(I)I"⟩, 21), (⟨"TimberHouse$Prices", "offered", "(II)J"⟩, 21)]
theorem lw_r17 : ∀ q ∈ lw_privs_17, lw_okq q := List.forall_mem_cons.mpr ⟨lw_p256, List.forall_mem_cons.mpr ⟨lw_p257, List.forall_mem_cons.mpr ⟨lw_p258, List.forall_mem_cons.mpr ⟨lw_p259, List.forall_mem_cons.mpr ⟨lw_p260, List.forall_mem_cons.mpr ⟨lw_p261, List.forall_mem_cons.mpr ⟨lw_p262, List.forall_mem_cons.mpr ⟨lw_p263, List.forall_mem_cons.mpr ⟨lw_p264, List.forall_mem_cons.mpr ⟨lw_p265, List.forall_mem_cons.mpr ⟨lw_p266, List.forall_mem_cons.mpr ⟨lw_p267, List.forall_mem_cons.mpr ⟨lw_p268, List.forall_mem_cons.mpr ⟨lw_p269, List.forall_mem_cons.mpr ⟨lw_p270, List.forall_mem_cons.mpr ⟨lw_p271, fun _ h => absurd h List.not_mem_nil⟩⟩⟩⟩⟩⟩⟩⟩⟩⟩⟩⟩⟩⟩⟩⟩
theorem lw_p272 : lw_okq (⟨"TimberHouse$Prices", "differs", "(II)J"⟩, 21) := ⟨⟨by decide +kernel, by decide +kernel⟩, List.mem_of_getElem? (i := 620) (by decide +kernel), List.mem_of_getElem? (i := 2568) (by decide +kernel), List.mem_of_getElem? (i := 2569) (by decide +kernel)⟩
theorem lw_p273 : lw_okq (⟨"TimberHouse$Prices", "invoice", "(II)I"⟩, 21) := ⟨⟨by decide +kernel, by decide +kernel⟩, List.mem_of_getElem? (i := 620) (by decide +kernel), List.mem_of_getElem? (i := 2572) (by decide +kernel), List.mem_of_getElem? (i := 2573) (by decide +kernel)⟩
theorem lw_p274 : lw_okq (⟨"TimberHouse$Prices", "left", "(I)J"⟩, 21) := ⟨⟨by decide +kernel, by decide +kernel⟩, List.mem_of_getElem? (i := 620) (by decide +kernel), List.mem_of_getElem? (i := 2576) (by decide +kernel), List.mem_of_getElem? (i := 2577) (by decide +kernel)⟩
theorem lw_p275 : lw_okq (⟨"TimberHouse$Prices", "refund", "(II)I"⟩, 21) := ⟨⟨by decide +kernel, by decide +kernel⟩, List.mem_of_getElem? (i := 620) (by decide +kernel), List.mem_of_getElem? (i := 2580) (by decide +kernel), List.mem_of_getElem? (i := 2581) (by decide +kernel)⟩
theorem lw_p276 : lw_okq (⟨"TimberHouse$Prices", "learn", "(II)J"⟩, 21) := ⟨⟨by decide +kernel, by decide +kernel⟩, List.mem_of_getElem? (i := 620) (by decide +kernel), List.mem_of_getElem? (i := 2584) (by decide +kernel), List.mem_of_getElem? (i := 2585) (by decide +kernel)⟩
theorem lw_p277 : lw_okq (⟨"TimberHouse$Shop", "tell", "(IIIIII)I"⟩, 13) := ⟨⟨by decide +kernel, by decide +kernel⟩, List.mem_of_getElem? (i := 703) (by decide +kernel), List.mem_of_getElem? (i := 2594) (by decide +kernel), List.mem_of_getElem? (i := 2595) (by decide +kernel)⟩
theorem lw_p278 : lw_okq (⟨"TimberHouse$Shop", "set", "(I)I"⟩, 13) := ⟨⟨by decide +kernel, by decide +kernel⟩, List.mem_of_getElem? (i := 703) (by decide +kernel), List.mem_of_getElem? (i := 2612) (by decide +kernel), List.mem_of_getElem? (i := 2613) (by decide +kernel)⟩
theorem lw_p279 : lw_okq (⟨"TimberHouse$Shop", "add", "(II)V"⟩, 13) := ⟨⟨by decide +kernel, by decide +kernel⟩, List.mem_of_getElem? (i := 703) (by decide +kernel), List.mem_of_getElem? (i := 2616) (by decide +kernel), List.mem_of_getElem? (i := 2617) (by decide +kernel)⟩
theorem lw_p280 : lw_okq (⟨"TimberHouse$Shop", "sink", "(II)V"⟩, 13) := ⟨⟨by decide +kernel, by decide +kernel⟩, List.mem_of_getElem? (i := 703) (by decide +kernel), List.mem_of_getElem? (i := 2620) (by decide +kernel), List.mem_of_getElem? (i := 2621) (by decide +kernel)⟩
theorem lw_p281 : lw_okq (⟨"TimberHouse$Shop", "join", "(II)I"⟩, 13) := ⟨⟨by decide +kernel, by decide +kernel⟩, List.mem_of_getElem? (i := 703) (by decide +kernel), List.mem_of_getElem? (i := 2624) (by decide +kernel), List.mem_of_getElem? (i := 2625) (by decide +kernel)⟩
theorem lw_p282 : lw_okq (⟨"TimberHouse$Shop", "isSet", "(I)Z"⟩, 13) := ⟨⟨by decide +kernel, by decide +kernel⟩, List.mem_of_getElem? (i := 703) (by decide +kernel), List.mem_of_getElem? (i := 2628) (by decide +kernel), List.mem_of_getElem? (i := 2629) (by decide +kernel)⟩
theorem lw_p283 : lw_okq (⟨"TimberHouse$Shop", "isIn", "(II)Z"⟩, 13) := ⟨⟨by decide +kernel, by decide +kernel⟩, List.mem_of_getElem? (i := 703) (by decide +kernel), List.mem_of_getElem? (i := 2632) (by decide +kernel), List.mem_of_getElem? (i := 2633) (by decide +kernel)⟩
theorem lw_p284 : lw_okq (⟨"TimberHouse$Shop", "equal", "(II)I"⟩, 13) := ⟨⟨by decide +kernel, by decide +kernel⟩, List.mem_of_getElem? (i := 703) (by decide +kernel), List.mem_of_getElem? (i := 2636) (by decide +kernel), List.mem_of_getElem? (i := 2637) (by decide +kernel)⟩
theorem lw_p285 : lw_okq (⟨"TimberHouse$Shop", "at", "(IIII)J"⟩, 13) := ⟨⟨by decide +kernel, by decide +kernel⟩, List.mem_of_getElem? (i := 703) (by decide +kernel), List.mem_of_getElem? (i := 2640) (by decide +kernel), List.mem_of_getElem? (i := 2641) (by decide +kernel)⟩
theorem lw_p286 : lw_okq (⟨"TimberHouse$Shop", "known", "(IIIII)J"⟩, 13) := ⟨⟨by decide +kernel, by decide +kernel⟩, List.mem_of_getElem? (i := 703) (by decide +kernel), List.mem_of_getElem? (i := 2644) (by decide +kernel), List.mem_of_getElem? (i := 2645) (by decide +kernel)⟩
theorem lw_p287 : lw_okq (⟨"TimberHouse$Shop", "sumOf", "(IIII)J"⟩, 13) := ⟨⟨by decide +kernel, by decide +kernel⟩, List.mem_of_getElem? (i := 703) (by decide +kernel), List.mem_of_getElem? (i := 2648) (by decide +kernel), List.mem_of_getElem? (i := 2649) (by decide +kernel)⟩
def lw_privs_18 : List (MethodName × Nat) := [(⟨"TimberHouse$Prices", "differs", "(II)J"⟩, 21), (⟨"TimberHouse$Prices", "invoice", "(II)I"⟩, 21), (⟨"TimberHouse$Prices", "left", "(I)J"⟩, 21), (⟨"TimberHouse$Prices", "refund", "(II)I"⟩, 21), (⟨"TimberHouse$Prices", "learn", "(II)J"⟩, 21), (⟨"TimberHouse$Shop", "tell", "(IIIIII)I"⟩, 13), (⟨"TimberHouse$Shop", "set", "(I)I"⟩, 13), (⟨"TimberHouse$Shop", "add", "(II)V"⟩, 13), (⟨"TimberHouse$Shop", "sink", "(II)V"⟩, 13), (⟨"TimberHouse$Shop", "join", "(II)I"⟩, 13), (⟨"TimberHouse$Shop", "isSet", "(I)Z"⟩, 13), (⟨"TimberHouse$Shop", "isIn", "(II)Z"⟩, 13), (⟨"TimberHouse$Shop", "equal", "(II)I"⟩, 13), (⟨"TimberHouse$Shop", "at", "(IIII)J"⟩, 13), (⟨"TimberHouse$Shop", "known", "(IIIII)J"⟩, 13), (⟨"TimberHouse$Shop", "sumOf", "(IIII)J"⟩, 13)]
theorem lw_r18 : ∀ q ∈ lw_privs_18, lw_okq q := List.forall_mem_cons.mpr ⟨lw_p272, List.forall_mem_cons.mpr ⟨lw_p273, List.forall_mem_cons.mpr ⟨lw_p274, List.forall_mem_cons.mpr ⟨lw_p275, List.forall_mem_cons.mpr ⟨lw_p276, List.forall_mem_cons.mpr ⟨lw_p277, List.forall_mem_cons.mpr ⟨lw_p278, List.forall_mem_cons.mpr ⟨lw_p279, List.forall_mem_cons.mpr ⟨lw_p280, List.forall_mem_cons.mpr ⟨lw_p281, List.forall_mem_cons.mpr ⟨lw_p282, List.forall_mem_cons.mpr ⟨lw_p283, List.forall_mem_cons.mpr ⟨lw_p284, List.forall_mem_cons.mpr ⟨lw_p285, List.forall_mem_cons.mpr ⟨lw_p286, List.forall_mem_cons.mpr ⟨lw_p287, fun _ h => absurd h List.not_mem_nil⟩⟩⟩⟩⟩⟩⟩⟩⟩⟩⟩⟩⟩⟩⟩⟩
theorem lw_p288 : lw_okq (⟨"TimberHouse$Shop", "counts", "(IIII)Z"⟩, 13) := ⟨⟨by decide +kernel, by decide +kernel⟩, List.mem_of_getElem? (i := 703) (by decide +kernel), List.mem_of_getElem? (i := 2652) (by decide +kernel), List.mem_of_getElem? (i := 2653) (by decide +kernel)⟩
theorem lw_p289 : lw_okq (⟨"TimberHouse$Shop", "settling", "(IIII)I"⟩, 13) := ⟨⟨by decide +kernel, by decide +kernel⟩, List.mem_of_getElem? (i := 703) (by decide +kernel), List.mem_of_getElem? (i := 2656) (by decide +kernel), List.mem_of_getElem? (i := 2657) (by decide +kernel)⟩
theorem lw_p290 : lw_okq (⟨"TimberHouse$Shop", "latest", "(IIIII)I"⟩, 13) := ⟨⟨by decide +kernel, by decide +kernel⟩, List.mem_of_getElem? (i := 703) (by decide +kernel), List.mem_of_getElem? (i := 2660) (by decide +kernel), List.mem_of_getElem? (i := 2661) (by decide +kernel)⟩
theorem lw_p291 : lw_okq (⟨"TimberHouse$Shop", "isLater", "(II)Z"⟩, 13) := ⟨⟨by decide +kernel, by decide +kernel⟩, List.mem_of_getElem? (i := 703) (by decide +kernel), List.mem_of_getElem? (i := 2664) (by decide +kernel), List.mem_of_getElem? (i := 2665) (by decide +kernel)⟩
theorem lw_p292 : lw_okq (⟨"TimberHouse$Shop", "agree", "(IIII)Z"⟩, 13) := ⟨⟨by decide +kernel, by decide +kernel⟩, List.mem_of_getElem? (i := 703) (by decide +kernel), List.mem_of_getElem? (i := 2668) (by decide +kernel), List.mem_of_getElem? (i := 2669) (by decide +kernel)⟩
theorem lw_p293 : lw_okq (⟨"TimberHouse$Shop", "conflict", "(II)I"⟩, 13) := ⟨⟨by decide +kernel, by decide +kernel⟩, List.mem_of_getElem? (i := 703) (by decide +kernel), List.mem_of_getElem? (i := 2672) (by decide +kernel), List.mem_of_getElem? (i := 2673) (by decide +kernel)⟩
theorem lw_p294 : lw_okq (⟨"TimberHouse$Shop", "conflicts", "(II)Z"⟩, 13) := ⟨⟨by decide +kernel, by decide +kernel⟩, List.mem_of_getElem? (i := 703) (by decide +kernel), List.mem_of_getElem? (i := 2676) (by decide +kernel), List.mem_of_getElem? (i := 2677) (by decide +kernel)⟩
theorem lw_p295 : lw_okq (⟨"TimberHouse$Shop", "mark", "(I)I"⟩, 13) := ⟨⟨by decide +kernel, by decide +kernel⟩, List.mem_of_getElem? (i := 703) (by decide +kernel), List.mem_of_getElem? (i := 2681) (by decide +kernel), List.mem_of_getElem? (i := 2682) (by decide +kernel)⟩
theorem lw_p296 : lw_okq (⟨"TimberHouse$Shop", "since", "(IIII)I"⟩, 13) := ⟨⟨by decide +kernel, by decide +kernel⟩, List.mem_of_getElem? (i := 703) (by decide +kernel), List.mem_of_getElem? (i := 2685) (by decide +kernel), List.mem_of_getElem? (i := 2686) (by decide +kernel)⟩
theorem lw_p297 : lw_okq (⟨"TimberHouse$Shop", "batch", "(IZ)I"⟩, 13) := ⟨⟨by decide +kernel, by decide +kernel⟩, List.mem_of_getElem? (i := 703) (by decide +kernel), List.mem_of_getElem? (i := 2689) (by decide +kernel), List.mem_of_getElem? (i := 2690) (by decide +kernel)⟩
theorem lw_p298 : lw_okq (⟨"TimberHouse$Shop", "right", "(IIZ)I"⟩, 13) := ⟨⟨by decide +kernel, by decide +kernel⟩, List.mem_of_getElem? (i := 703) (by decide +kernel), List.mem_of_getElem? (i := 2693) (by decide +kernel), List.mem_of_getElem? (i := 2694) (by decide +kernel)⟩
theorem lw_p299 : lw_okq (⟨"TimberHouse$Shop", "hasRight", "(II)Z"⟩, 13) := ⟨⟨by decide +kernel, by decide +kernel⟩, List.mem_of_getElem? (i := 703) (by decide +kernel), List.mem_of_getElem? (i := 2697) (by decide +kernel), List.mem_of_getElem? (i := 2698) (by decide +kernel)⟩
theorem lw_p300 : lw_okq (⟨"TimberHouse$Shop", "seen", "(IIII)J"⟩, 13) := ⟨⟨by decide +kernel, by decide +kernel⟩, List.mem_of_getElem? (i := 703) (by decide +kernel), List.mem_of_getElem? (i := 2701) (by decide +kernel), List.mem_of_getElem? (i := 2702) (by decide +kernel)⟩
theorem lw_p301 : lw_okq (⟨"TimberHouse$Shop", "entry", "(I)I"⟩, 13) := ⟨⟨by decide +kernel, by decide +kernel⟩, List.mem_of_getElem? (i := 703) (by decide +kernel), List.mem_of_getElem? (i := 2705) (by decide +kernel), List.mem_of_getElem? (i := 2706) (by decide +kernel)⟩
theorem lw_p302 : lw_okq (⟨"TimberHouse$Shop", "row", "(III)I"⟩, 13) := ⟨⟨by decide +kernel, by decide +kernel⟩, List.mem_of_getElem? (i := 703) (by decide +kernel), List.mem_of_getElem? (i := 2711) (by decide +kernel), List.mem_of_getElem? (i := 2712) (by decide +kernel)⟩
theorem lw_p303 : lw_okq (⟨"TimberHouse$Shop", "close", "(I)I"⟩, 13) := ⟨⟨by decide +kernel, by decide +kernel⟩, List.mem_of_getElem? (i := 703) (by decide +kernel), List.mem_of_getElem? (i := 2718) (by decide +kernel), List.mem_of_getElem? (i := 2719) (by decide +kernel)⟩
def lw_privs_19 : List (MethodName × Nat) := [(⟨"TimberHouse$Shop", "counts", "(IIII)Z"⟩, 13), (⟨"TimberHouse$Shop", "settling", "(IIII)I"⟩, 13), (⟨"TimberHouse$Shop", "latest", "(IIIII)I"⟩, 13), (⟨"TimberHouse$Shop", "isLater", "(II)Z"⟩, 13), (⟨"TimberHouse$Shop", "agree", "(IIII)Z"⟩, 13), (⟨"TimberHouse$Shop", "conflict", "(II)I"⟩, 13), (⟨"TimberHouse$Shop", "conflicts", "(II)Z"⟩, 13), (⟨"TimberHouse$Shop", "mark", "(I)I"⟩, 13), (⟨"TimberHouse$Shop", "since", "(IIII)I"⟩, 13), (⟨"TimberHouse$Shop", "batch", "(IZ)I"⟩, 13), (⟨"TimberHouse$Shop", "right", "(IIZ)I"⟩, 13), (⟨"TimberHouse$Shop", "hasRight", "(II)Z"⟩, 13), (⟨"TimberHouse$Shop", "seen", "(IIII)J"⟩, 13), (⟨"TimberHouse$Shop", "entry", "(I)I"⟩, 13), (⟨"TimberHouse$Shop", "row", "(III)I"⟩, 13), (⟨"TimberHouse$Shop", "close", "(I)I"⟩, 13)]
theorem lw_r19 : ∀ q ∈ lw_privs_19, lw_okq q := List.forall_mem_cons.mpr ⟨lw_p288, List.forall_mem_cons.mpr ⟨lw_p289, List.forall_mem_cons.mpr ⟨lw_p290, List.forall_mem_cons.mpr ⟨lw_p291, List.forall_mem_cons.mpr ⟨lw_p292, List.forall_mem_cons.mpr ⟨lw_p293, List.forall_mem_cons.mpr ⟨lw_p294, List.forall_mem_cons.mpr ⟨lw_p295, List.forall_mem_cons.mpr ⟨lw_p296, List.forall_mem_cons.mpr ⟨lw_p297, List.forall_mem_cons.mpr ⟨lw_p298, List.forall_mem_cons.mpr ⟨lw_p299, List.forall_mem_cons.mpr ⟨lw_p300, List.forall_mem_cons.mpr ⟨lw_p301, List.forall_mem_cons.mpr ⟨lw_p302, List.forall_mem_cons.mpr ⟨lw_p303, fun _ h => absurd h List.not_mem_nil⟩⟩⟩⟩⟩⟩⟩⟩⟩⟩⟩⟩⟩⟩⟩⟩
theorem lw_p304 : lw_okq (⟨"TimberHouse$Shop", "balance", "(II)J"⟩, 13) := ⟨⟨by decide +kernel, by decide +kernel⟩, List.mem_of_getElem? (i := 703) (by decide +kernel), List.mem_of_getElem? (i := 2723) (by decide +kernel), List.mem_of_getElem? (i := 2724) (by decide +kernel)⟩
theorem lw_p305 : lw_okq (⟨"TimberHouse$Shop", "closeMonth", "(I)I"⟩, 13) := ⟨⟨by decide +kernel, by decide +kernel⟩, List.mem_of_getElem? (i := 703) (by decide +kernel), List.mem_of_getElem? (i := 2727) (by decide +kernel), List.mem_of_getElem? (i := 2728) (by decide +kernel)⟩
theorem lw_p306 : lw_okq (⟨"TimberHouse$Shop", "reverse", "(II)I"⟩, 13) := ⟨⟨by decide +kernel, by decide +kernel⟩, List.mem_of_getElem? (i := 703) (by decide +kernel), List.mem_of_getElem? (i := 2731) (by decide +kernel), List.mem_of_getElem? (i := 2732) (by decide +kernel)⟩
theorem lw_p307 : lw_okq (⟨"TimberHouseModel", "saw", "(IIIIIII)J"⟩, 16) := ⟨⟨by decide +kernel, by decide +kernel⟩, List.mem_of_getElem? (i := 2736) (by decide +kernel), List.mem_of_getElem? (i := 3780) (by decide +kernel), List.mem_of_getElem? (i := 3781) (by decide +kernel)⟩
theorem lw_p308 : lw_okq (⟨"TimberHouseModel", "anew", "(I)Z"⟩, 16) := ⟨⟨by decide +kernel, by decide +kernel⟩, List.mem_of_getElem? (i := 2736) (by decide +kernel), List.mem_of_getElem? (i := 3784) (by decide +kernel), List.mem_of_getElem? (i := 3785) (by decide +kernel)⟩
theorem lw_p309 : lw_okq (⟨"TimberHouseModel$Saw", "isCell", "(II)Z"⟩, 22) := ⟨⟨by decide +kernel, by decide +kernel⟩, List.mem_of_getElem? (i := 2742) (by decide +kernel), List.mem_of_getElem? (i := 3795) (by decide +kernel), List.mem_of_getElem? (i := 3796) (by decide +kernel)⟩
theorem lw_p310 : lw_okq (⟨"TimberHouseModel", "told", "(JII)J"⟩, 16) := ⟨⟨by decide +kernel, by decide +kernel⟩, List.mem_of_getElem? (i := 2736) (by decide +kernel), List.mem_of_getElem? (i := 3803) (by decide +kernel), List.mem_of_getElem? (i := 3804) (by decide +kernel)⟩
theorem lw_p311 : lw_okq (⟨"TimberHouseModel$Saw", "fill", "(I)V"⟩, 22) := ⟨⟨by decide +kernel, by decide +kernel⟩, List.mem_of_getElem? (i := 2742) (by decide +kernel), List.mem_of_getElem? (i := 3824) (by decide +kernel), List.mem_of_getElem? (i := 3825) (by decide +kernel)⟩
theorem lw_p312 : lw_okq (⟨"TimberHouseModel$Saw", "sums", "()V"⟩, 22) := ⟨⟨by decide +kernel, by decide +kernel⟩, List.mem_of_getElem? (i := 2742) (by decide +kernel), List.mem_of_getElem? (i := 3828) (by decide +kernel), List.mem_of_getElem? (i := 3829) (by decide +kernel)⟩
theorem lw_p313 : lw_okq (⟨"TimberHouseModel$Saw", "isWood", "(II)Z"⟩, 22) := ⟨⟨by decide +kernel, by decide +kernel⟩, List.mem_of_getElem? (i := 2742) (by decide +kernel), List.mem_of_getElem? (i := 3832) (by decide +kernel), List.mem_of_getElem? (i := 3833) (by decide +kernel)⟩
theorem lw_p314 : lw_okq (⟨"TimberHouseModel$Saw", "isThick", "(I)Z"⟩, 22) := ⟨⟨by decide +kernel, by decide +kernel⟩, List.mem_of_getElem? (i := 2742) (by decide +kernel), List.mem_of_getElem? (i := 3836) (by decide +kernel), List.mem_of_getElem? (i := 3837) (by decide +kernel)⟩
theorem lw_p315 : lw_okq (⟨"TimberHouseModel$Saw", "slab", "(III)V"⟩, 22) := ⟨⟨by decide +kernel, by decide +kernel⟩, List.mem_of_getElem? (i := 2742) (by decide +kernel), List.mem_of_getElem? (i := 3840) (by decide +kernel), List.mem_of_getElem? (i := 3841) (by decide +kernel)⟩
theorem lw_p316 : lw_okq (⟨"TimberHouseModel$Saw", "mayIn", "(IIIII)Z"⟩, 22) := ⟨⟨by decide +kernel, by decide +kernel⟩, List.mem_of_getElem? (i := 2742) (by decide +kernel), List.mem_of_getElem? (i := 3847) (by decide +kernel), List.mem_of_getElem? (i := 3848) (by decide +kernel)⟩
theorem lw_p317 : lw_okq (⟨"TimberHouseModel$Saw", "fits", "(IIII)Z"⟩, 22) := ⟨⟨by decide +kernel, by decide +kernel⟩, List.mem_of_getElem? (i := 2742) (by decide +kernel), List.mem_of_getElem? (i := 3851) (by decide +kernel), List.mem_of_getElem? (i := 3852) (by decide +kernel)⟩
theorem lw_p318 : lw_okq (⟨"TimberHouseModel$Saw", "alongX", "(II)I"⟩, 22) := ⟨⟨by decide +kernel, by decide +kernel⟩, List.mem_of_getElem? (i := 2742) (by decide +kernel), List.mem_of_getElem? (i := 3855) (by decide +kernel), List.mem_of_getElem? (i := 3856) (by decide +kernel)⟩
theorem lw_p319 : lw_okq (⟨"TimberHouseModel$Saw", "alongY", "(II)I"⟩, 22) := ⟨⟨by decide +kernel, by decide +kernel⟩, List.mem_of_getElem? (i := 2742) (by decide +kernel), List.mem_of_getElem? (i := 3859) (by decide +kernel), List.mem_of_getElem? (i := 3860) (by decide +kernel)⟩
def lw_privs_20 : List (MethodName × Nat) := [(⟨"TimberHouse$Shop", "balance", "(II)J"⟩, 13), (⟨"TimberHouse$Shop", "closeMonth", "(I)I"⟩, 13), (⟨"TimberHouse$Shop", "reverse", "(II)I"⟩, 13), (⟨"TimberHouseModel", "saw", "(IIIIIII)J"⟩, 16), (⟨"TimberHouseModel", "anew", "(I)Z"⟩, 16), (⟨"TimberHouseModel$Saw", "isCell", "(II)Z"⟩, 22), (⟨"TimberHouseModel", "told", "(JII)J"⟩, 16), (⟨"TimberHouseModel$Saw", "fill", "(I)V"⟩, 22), (⟨"TimberHouseModel$Saw", "sums", "()V"⟩, 22), (⟨"TimberHouseModel$Saw", "isWood", "(II)Z"⟩, 22), (⟨"TimberHouseModel$Saw", "isThick", "(I)Z"⟩, 22), (⟨"TimberHouseModel$Saw", "slab", "(III)V"⟩, 22), (⟨"TimberHouseModel$Saw", "mayIn", "(IIIII)Z"⟩, 22), (⟨"TimberHouseModel$Saw", "fits", "(IIII)Z"⟩, 22), (⟨"TimberHouseModel$Saw", "alongX", "(II)I"⟩, 22), (⟨"TimberHouseModel$Saw", "alongY", "(II)I"⟩, 22)]
theorem lw_r20 : ∀ q ∈ lw_privs_20, lw_okq q := List.forall_mem_cons.mpr ⟨lw_p304, List.forall_mem_cons.mpr ⟨lw_p305, List.forall_mem_cons.mpr ⟨lw_p306, List.forall_mem_cons.mpr ⟨lw_p307, List.forall_mem_cons.mpr ⟨lw_p308, List.forall_mem_cons.mpr ⟨lw_p309, List.forall_mem_cons.mpr ⟨lw_p310, List.forall_mem_cons.mpr ⟨lw_p311, List.forall_mem_cons.mpr ⟨lw_p312, List.forall_mem_cons.mpr ⟨lw_p313, List.forall_mem_cons.mpr ⟨lw_p314, List.forall_mem_cons.mpr ⟨lw_p315, List.forall_mem_cons.mpr ⟨lw_p316, List.forall_mem_cons.mpr ⟨lw_p317, List.forall_mem_cons.mpr ⟨lw_p318, List.forall_mem_cons.mpr ⟨lw_p319, fun _ h => absurd h List.not_mem_nil⟩⟩⟩⟩⟩⟩⟩⟩⟩⟩⟩⟩⟩⟩⟩⟩
theorem lw_p320 : lw_okq (⟨"TimberHouseModel$Saw", "over", "(ZIIII)I"⟩, 22) := ⟨⟨by decide +kernel, by decide +kernel⟩, List.mem_of_getElem? (i := 2742) (by decide +kernel), List.mem_of_getElem? (i := 3863) (by decide +kernel), List.mem_of_getElem? (i := 3864) (by decide +kernel)⟩
theorem lw_p321 : lw_okq (⟨"TimberHouseModel$Saw", "worthWith", "(IIIII)I"⟩, 22) := ⟨⟨by decide +kernel, by decide +kernel⟩, List.mem_of_getElem? (i := 2742) (by decide +kernel), List.mem_of_getElem? (i := 3867) (by decide +kernel), List.mem_of_getElem? (i := 3868) (by decide +kernel)⟩
theorem lw_p322 : lw_okq (⟨"TimberHouseModel$Saw", "brings", "(IIII)I"⟩, 22) := ⟨⟨by decide +kernel, by decide +kernel⟩, List.mem_of_getElem? (i := 2742) (by decide +kernel), List.mem_of_getElem? (i := 3871) (by decide +kernel), List.mem_of_getElem? (i := 3872) (by decide +kernel)⟩
theorem lw_p323 : lw_okq (⟨"TimberHouseModel$Saw", "behind", "(II)I"⟩, 22) := ⟨⟨by decide +kernel, by decide +kernel⟩, List.mem_of_getElem? (i := 2742) (by decide +kernel), List.mem_of_getElem? (i := 3875) (by decide +kernel), List.mem_of_getElem? (i := 3876) (by decide +kernel)⟩
theorem lw_p324 : lw_okq (⟨"TimberHouseModel$Saw", "countWith", "(IIII)I"⟩, 22) := ⟨⟨by decide +kernel, by decide +kernel⟩, List.mem_of_getElem? (i := 2742) (by decide +kernel), List.mem_of_getElem? (i := 3879) (by decide +kernel), List.mem_of_getElem? (i := 3880) (by decide +kernel)⟩
theorem lw_p325 : lw_okq (⟨"TimberHouseModel$Saw", "hasSlab", "(II)Z"⟩, 22) := ⟨⟨by decide +kernel, by decide +kernel⟩, List.mem_of_getElem? (i := 2742) (by decide +kernel), List.mem_of_getElem? (i := 3886) (by decide +kernel), List.mem_of_getElem? (i := 3887) (by decide +kernel)⟩
theorem lw_p326 : lw_okq (⟨"TimberHouseModel$Saw", "walk", "(I)V"⟩, 22) := ⟨⟨by decide +kernel, by decide +kernel⟩, List.mem_of_getElem? (i := 2742) (by decide +kernel), List.mem_of_getElem? (i := 3890) (by decide +kernel), List.mem_of_getElem? (i := 3891) (by decide +kernel)⟩
theorem lw_p327 : lw_okq (⟨"TimberHouseModel$Saw", "walkSlab", "(III)V"⟩, 22) := ⟨⟨by decide +kernel, by decide +kernel⟩, List.mem_of_getElem? (i := 2742) (by decide +kernel), List.mem_of_getElem? (i := 3894) (by decide +kernel), List.mem_of_getElem? (i := 3895) (by decide +kernel)⟩
theorem lw_p328 : lw_okq (⟨"TimberHouseModel$Saw", "add", "(IIII)V"⟩, 22) := ⟨⟨by decide +kernel, by decide +kernel⟩, List.mem_of_getElem? (i := 2742) (by decide +kernel), List.mem_of_getElem? (i := 3898) (by decide +kernel), List.mem_of_getElem? (i := 3899) (by decide +kernel)⟩
theorem lw_p329 : lw_okq (⟨"TimberHouseModel$Saw", "bareOf", "(I)I"⟩, 22) := ⟨⟨by decide +kernel, by decide +kernel⟩, List.mem_of_getElem? (i := 2742) (by decide +kernel), List.mem_of_getElem? (i := 3906) (by decide +kernel), List.mem_of_getElem? (i := 3907) (by decide +kernel)⟩
theorem lw_p330 : lw_okq (⟨"TimberHouseModel$Saw", "woodCells", "()I"⟩, 22) := ⟨⟨by decide +kernel, by decide +kernel⟩, List.mem_of_getElem? (i := 2742) (by decide +kernel), List.mem_of_getElem? (i := 3922) (by decide +kernel), List.mem_of_getElem? (i := 3923) (by decide +kernel)⟩
theorem lw_p331 : lw_okq (⟨"TimberHouseModel$Saw", "isApart", "(III)Z"⟩, 22) := ⟨⟨by decide +kernel, by decide +kernel⟩, List.mem_of_getElem? (i := 2742) (by decide +kernel), List.mem_of_getElem? (i := 3934) (by decide +kernel), List.mem_of_getElem? (i := 3935) (by decide +kernel)⟩
theorem lw_p332 : lw_okq (⟨"TimberHouseModel", "rips", "(IIIIIII)J"⟩, 16) := ⟨⟨by decide +kernel, by decide +kernel⟩, List.mem_of_getElem? (i := 2736) (by decide +kernel), List.mem_of_getElem? (i := 3942) (by decide +kernel), List.mem_of_getElem? (i := 3943) (by decide +kernel)⟩
theorem lw_p333 : lw_okq (⟨"TimberHouseModel$Rips", "told", "(Z)Z"⟩, 47) := ⟨⟨by decide +kernel, by decide +kernel⟩, List.mem_of_getElem? (i := 2816) (by decide +kernel), List.mem_of_getElem? (i := 3956) (by decide +kernel), List.mem_of_getElem? (i := 3957) (by decide +kernel)⟩
theorem lw_p334 : lw_okq (⟨"TimberHouseModel$Rips", "stepsOf", "(I)I"⟩, 47) := ⟨⟨by decide +kernel, by decide +kernel⟩, List.mem_of_getElem? (i := 2816) (by decide +kernel), List.mem_of_getElem? (i := 3969) (by decide +kernel), List.mem_of_getElem? (i := 3970) (by decide +kernel)⟩
theorem lw_p335 : lw_okq (⟨"TimberHouseModel$Rips", "noPiece", "(I)Z"⟩, 47) := ⟨⟨by decide +kernel, by decide +kernel⟩, List.mem_of_getElem? (i := 2816) (by decide +kernel), List.mem_of_getElem? (i := 3977) (by decide +kernel), List.mem_of_getElem? (i := 3978) (by decide +kernel)⟩
def lw_privs_21 : List (MethodName × Nat) := [(⟨"TimberHouseModel$Saw", "over", "(ZIIII)I"⟩, 22), (⟨"TimberHouseModel$Saw", "worthWith", "(IIIII)I"⟩, 22), (⟨"TimberHouseModel$Saw", "brings", "(IIII)I"⟩, 22), (⟨"TimberHouseModel$Saw", "behind", "(II)I"⟩, 22), (⟨"TimberHouseModel$Saw", "countWith", "(IIII)I"⟩, 22), (⟨"TimberHouseModel$Saw", "hasSlab", "(II)Z"⟩, 22), (⟨"TimberHouseModel$Saw", "walk", "(I)V"⟩, 22), (⟨"TimberHouseModel$Saw", "walkSlab", "(III)V"⟩, 22), (⟨"TimberHouseModel$Saw", "add", "(IIII)V"⟩, 22), (⟨"TimberHouseModel$Saw", "bareOf", "(I)I"⟩, 22), (⟨"TimberHouseModel$Saw", "woodCells", "()I"⟩, 22), (⟨"TimberHouseModel$Saw", "isApart", "(III)Z"⟩, 22), (⟨"TimberHouseModel", "rips", "(IIIIIII)J"⟩, 16), (⟨"TimberHouseModel$Rips", "told", "(Z)Z"⟩, 47), (⟨"TimberHouseModel$Rips", "stepsOf", "(I)I"⟩, 47), (⟨"TimberHouseModel$Rips", "noPiece", "(I)Z"⟩, 47)]
theorem lw_r21 : ∀ q ∈ lw_privs_21, lw_okq q := List.forall_mem_cons.mpr ⟨lw_p320, List.forall_mem_cons.mpr ⟨lw_p321, List.forall_mem_cons.mpr ⟨lw_p322, List.forall_mem_cons.mpr ⟨lw_p323, List.forall_mem_cons.mpr ⟨lw_p324, List.forall_mem_cons.mpr ⟨lw_p325, List.forall_mem_cons.mpr ⟨lw_p326, List.forall_mem_cons.mpr ⟨lw_p327, List.forall_mem_cons.mpr ⟨lw_p328, List.forall_mem_cons.mpr ⟨lw_p329, List.forall_mem_cons.mpr ⟨lw_p330, List.forall_mem_cons.mpr ⟨lw_p331, List.forall_mem_cons.mpr ⟨lw_p332, List.forall_mem_cons.mpr ⟨lw_p333, List.forall_mem_cons.mpr ⟨lw_p334, List.forall_mem_cons.mpr ⟨lw_p335, fun _ h => absurd h List.not_mem_nil⟩⟩⟩⟩⟩⟩⟩⟩⟩⟩⟩⟩⟩⟩⟩⟩
theorem lw_p336 : lw_okq (⟨"TimberHouseModel$Rips", "plan", "()J"⟩, 47) := ⟨⟨by decide +kernel, by decide +kernel⟩, List.mem_of_getElem? (i := 2816) (by decide +kernel), List.mem_of_getElem? (i := 4004) (by decide +kernel), List.mem_of_getElem? (i := 4005) (by decide +kernel)⟩
theorem lw_p337 : lw_okq (⟨"TimberHouseModel$Rips", "fillPieces", "()V"⟩, 47) := ⟨⟨by decide +kernel, by decide +kernel⟩, List.mem_of_getElem? (i := 2816) (by decide +kernel), List.mem_of_getElem? (i := 4008) (by decide +kernel), List.mem_of_getElem? (i := 4009) (by decide +kernel)⟩
theorem lw_p338 : lw_okq (⟨"TimberHouseModel$Rips", "bestPiece", "(IIII)V"⟩, 47) := ⟨⟨by decide +kernel, by decide +kernel⟩, List.mem_of_getElem? (i := 2816) (by decide +kernel), List.mem_of_getElem? (i := 4012) (by decide +kernel), List.mem_of_getElem? (i := 4013) (by decide +kernel)⟩
theorem lw_p339 : lw_okq (⟨"TimberHouseModel$Rips", "may", "(IIIII)Z"⟩, 47) := ⟨⟨by decide +kernel, by decide +kernel⟩, List.mem_of_getElem? (i := 2816) (by decide +kernel), List.mem_of_getElem? (i := 4019) (by decide +kernel), List.mem_of_getElem? (i := 4020) (by decide +kernel)⟩
theorem lw_p340 : lw_okq (⟨"TimberHouseModel$Rips", "isOver", "(IIIII)Z"⟩, 47) := ⟨⟨by decide +kernel, by decide +kernel⟩, List.mem_of_getElem? (i := 2816) (by decide +kernel), List.mem_of_getElem? (i := 4023) (by decide +kernel), List.mem_of_getElem? (i := 4024) (by decide +kernel)⟩
theorem lw_p341 : lw_okq (⟨"TimberHouseModel$Rips", "fillOne", "()V"⟩, 47) := ⟨⟨by decide +kernel, by decide +kernel⟩, List.mem_of_getElem? (i := 2816) (by decide +kernel), List.mem_of_getElem? (i := 4027) (by decide +kernel), List.mem_of_getElem? (i := 4028) (by decide +kernel)⟩
theorem lw_p342 : lw_okq (⟨"TimberHouseModel$Rips", "reckon", "(IIIII)V"⟩, 47) := ⟨⟨by decide +kernel, by decide +kernel⟩, List.mem_of_getElem? (i := 2816) (by decide +kernel), List.mem_of_getElem? (i := 4031) (by decide +kernel), List.mem_of_getElem? (i := 4032) (by decide +kernel)⟩
theorem lw_p343 : lw_okq (⟨"TimberHouseModel$Rips", "isRipped", "(I)Z"⟩, 47) := ⟨⟨by decide +kernel, by decide +kernel⟩, List.mem_of_getElem? (i := 2816) (by decide +kernel), List.mem_of_getElem? (i := 4035) (by decide +kernel), List.mem_of_getElem? (i := 4036) (by decide +kernel)⟩
theorem lw_p344 : lw_okq (⟨"TimberHouseModel$Rips", "segment", "(ZIIIIII)I"⟩, 47) := ⟨⟨by decide +kernel, by decide +kernel⟩, List.mem_of_getElem? (i := 2816) (by decide +kernel), List.mem_of_getElem? (i := 4039) (by decide +kernel), List.mem_of_getElem? (i := 4040) (by decide +kernel)⟩
theorem lw_p345 : lw_okq (⟨"TimberHouseModel$Rips", "countBy", "(II)I"⟩, 47) := ⟨⟨by decide +kernel, by decide +kernel⟩, List.mem_of_getElem? (i := 2816) (by decide +kernel), List.mem_of_getElem? (i := 4043) (by decide +kernel), List.mem_of_getElem? (i := 4044) (by decide +kernel)⟩
theorem lw_p346 : lw_okq (⟨"TimberHouseModel$Rips", "isCut", "(II)Z"⟩, 47) := ⟨⟨by decide +kernel, by decide +kernel⟩, List.mem_of_getElem? (i := 2816) (by decide +kernel), List.mem_of_getElem? (i := 4047) (by decide +kernel), List.mem_of_getElem? (i := 4048) (by decide +kernel)⟩
theorem lw_p347 : lw_okq (⟨"TimberHouseModel$Rips", "valueBy", "(II)J"⟩, 47) := ⟨⟨by decide +kernel, by decide +kernel⟩, List.mem_of_getElem? (i := 2816) (by decide +kernel), List.mem_of_getElem? (i := 4051) (by decide +kernel), List.mem_of_getElem? (i := 4052) (by decide +kernel)⟩
theorem lw_p348 : lw_okq (⟨"TimberHouseModel$Rips", "fillTwo", "()V"⟩, 47) := ⟨⟨by decide +kernel, by decide +kernel⟩, List.mem_of_getElem? (i := 2816) (by decide +kernel), List.mem_of_getElem? (i := 4055) (by decide +kernel), List.mem_of_getElem? (i := 4056) (by decide +kernel)⟩
theorem lw_p349 : lw_okq (⟨"TimberHouseModel$Rips", "walkOne", "(IIII)V"⟩, 47) := ⟨⟨by decide +kernel, by decide +kernel⟩, List.mem_of_getElem? (i := 2816) (by decide +kernel), List.mem_of_getElem? (i := 4059) (by decide +kernel), List.mem_of_getElem? (i := 4060) (by decide +kernel)⟩
theorem lw_p350 : lw_okq (⟨"TimberHouseModel$Rips", "segmentFrom", "(IIIIII)I"⟩, 47) := ⟨⟨by decide +kernel, by decide +kernel⟩, List.mem_of_getElem? (i := 2816) (by decide +kernel), List.mem_of_getElem? (i := 4063) (by decide +kernel), List.mem_of_getElem? (i := 4064) (by decide +kernel)⟩
theorem lw_p351 : lw_okq (⟨"TimberHouseModel$Rips", "put", "(IIII)V"⟩, 47) := ⟨⟨by decide +kernel, by decide +kernel⟩, List.mem_of_getElem? (i := 2816) (by decide +kernel), List.mem_of_getElem? (i := 4067) (by decide +kernel), List.mem_of_getElem? (i := 4068) (by decide +kernel)⟩
def lw_privs_22 : List (MethodName × Nat) := [(⟨"TimberHouseModel$Rips", "plan", "()J"⟩, 47), (⟨"TimberHouseModel$Rips", "fillPieces", "()V"⟩, 47), (⟨"TimberHouseModel$Rips", "bestPiece", "(IIII)V"⟩, 47), (⟨"TimberHouseModel$Rips", "may", "(IIIII)Z"⟩, 47), (⟨"TimberHouseModel$Rips", "isOver", "(IIIII)Z"⟩, 47), (⟨"TimberHouseModel$Rips", "fillOne", "()V"⟩, 47), (⟨"TimberHouseModel$Rips", "reckon", "(IIIII)V"⟩, 47), (⟨"TimberHouseModel$Rips", "isRipped", "(I)Z"⟩, 47), (⟨"TimberHouseModel$Rips", "segment", "(ZIIIIII)I"⟩, 47), (⟨"TimberHouseModel$Rips", "countBy", "(II)I"⟩, 47), (⟨"TimberHouseModel$Rips", "isCut", "(II)Z"⟩, 47), (⟨"TimberHouseModel$Rips", "valueBy", "(II)J"⟩, 47), (⟨"TimberHouseModel$Rips", "fillTwo", "()V"⟩, 47), (⟨"TimberHouseModel$Rips", "walkOne", "(IIII)V"⟩, 47), (⟨"TimberHouseModel$Rips", "segmentFrom", "(IIIIII)I"⟩, 47), (⟨"TimberHouseModel$Rips", "put", "(IIII)V"⟩, 47)]
theorem lw_r22 : ∀ q ∈ lw_privs_22, lw_okq q := List.forall_mem_cons.mpr ⟨lw_p336, List.forall_mem_cons.mpr ⟨lw_p337, List.forall_mem_cons.mpr ⟨lw_p338, List.forall_mem_cons.mpr ⟨lw_p339, List.forall_mem_cons.mpr ⟨lw_p340, List.forall_mem_cons.mpr ⟨lw_p341, List.forall_mem_cons.mpr ⟨lw_p342, List.forall_mem_cons.mpr ⟨lw_p343, List.forall_mem_cons.mpr ⟨lw_p344, List.forall_mem_cons.mpr ⟨lw_p345, List.forall_mem_cons.mpr ⟨lw_p346, List.forall_mem_cons.mpr ⟨lw_p347, List.forall_mem_cons.mpr ⟨lw_p348, List.forall_mem_cons.mpr ⟨lw_p349, List.forall_mem_cons.mpr ⟨lw_p350, List.forall_mem_cons.mpr ⟨lw_p351, fun _ h => absurd h List.not_mem_nil⟩⟩⟩⟩⟩⟩⟩⟩⟩⟩⟩⟩⟩⟩⟩⟩
theorem lw_p352 : lw_okq (⟨"TimberHouseModel$Rips", "walkTwo", "(IIII)V"⟩, 47) := ⟨⟨by decide +kernel, by decide +kernel⟩, List.mem_of_getElem? (i := 2816) (by decide +kernel), List.mem_of_getElem? (i := 4071) (by decide +kernel), List.mem_of_getElem? (i := 4072) (by decide +kernel)⟩
theorem lw_p353 : lw_okq (⟨"TimberHouseModel$Rips", "walkThree", "()V"⟩, 47) := ⟨⟨by decide +kernel, by decide +kernel⟩, List.mem_of_getElem? (i := 2816) (by decide +kernel), List.mem_of_getElem? (i := 4075) (by decide +kernel), List.mem_of_getElem? (i := 4076) (by decide +kernel)⟩
theorem lw_p354 : lw_okq (⟨"TimberHouseModel$Rips", "allHold", "(Z)Z"⟩, 47) := ⟨⟨by decide +kernel, by decide +kernel⟩, List.mem_of_getElem? (i := 2816) (by decide +kernel), List.mem_of_getElem? (i := 4084) (by decide +kernel), List.mem_of_getElem? (i := 4085) (by decide +kernel)⟩
theorem lw_p355 : lw_okq (⟨"TimberHouseModel$Rips", "countOf", "(I)I"⟩, 47) := ⟨⟨by decide +kernel, by decide +kernel⟩, List.mem_of_getElem? (i := 2816) (by decide +kernel), List.mem_of_getElem? (i := 4088) (by decide +kernel), List.mem_of_getElem? (i := 4089) (by decide +kernel)⟩
theorem lw_p356 : lw_okq (⟨"TimberHouseModel$Rips", "trueWorth", "()J"⟩, 47) := ⟨⟨by decide +kernel, by decide +kernel⟩, List.mem_of_getElem? (i := 2816) (by decide +kernel), List.mem_of_getElem? (i := 4092) (by decide +kernel), List.mem_of_getElem? (i := 4093) (by decide +kernel)⟩
theorem lw_p357 : lw_okq (⟨"TimberHouseModel$Rips", "keep", "()V"⟩, 47) := ⟨⟨by decide +kernel, by decide +kernel⟩, List.mem_of_getElem? (i := 2816) (by decide +kernel), List.mem_of_getElem? (i := 4096) (by decide +kernel), List.mem_of_getElem? (i := 4097) (by decide +kernel)⟩
theorem lw_p358 : lw_okq (⟨"TimberHouseModel$Rips", "setPrices", "(I)V"⟩, 47) := ⟨⟨by decide +kernel, by decide +kernel⟩, List.mem_of_getElem? (i := 2816) (by decide +kernel), List.mem_of_getElem? (i := 4100) (by decide +kernel), List.mem_of_getElem? (i := 4101) (by decide +kernel)⟩
theorem lw_p359 : lw_okq (⟨"TimberHouseModel$Rips", "bringBack", "()V"⟩, 47) := ⟨⟨by decide +kernel, by decide +kernel⟩, List.mem_of_getElem? (i := 2816) (by decide +kernel), List.mem_of_getElem? (i := 4104) (by decide +kernel), List.mem_of_getElem? (i := 4105) (by decide +kernel)⟩
theorem lw_p360 : lw_okq (⟨"TimberHouseModel$Rips", "dropTooMany", "()V"⟩, 47) := ⟨⟨by decide +kernel, by decide +kernel⟩, List.mem_of_getElem? (i := 2816) (by decide +kernel), List.mem_of_getElem? (i := 4108) (by decide +kernel), List.mem_of_getElem? (i := 4109) (by decide +kernel)⟩
theorem lw_p361 : lw_okq (⟨"TimberHouseModel$Rips", "drop", "(I)V"⟩, 47) := ⟨⟨by decide +kernel, by decide +kernel⟩, List.mem_of_getElem? (i := 2816) (by decide +kernel), List.mem_of_getElem? (i := 4112) (by decide +kernel), List.mem_of_getElem? (i := 4113) (by decide +kernel)⟩
theorem lw_p362 : lw_okq (⟨"TimberHouseModel$Rips", "none", "()Z"⟩, 47) := ⟨⟨by decide +kernel, by decide +kernel⟩, List.mem_of_getElem? (i := 2816) (by decide +kernel), List.mem_of_getElem? (i := 4120) (by decide +kernel), List.mem_of_getElem? (i := 4121) (by decide +kernel)⟩
theorem lw_p363 : lw_okq (⟨"TimberHouseModel$Rips", "cover", "()V"⟩, 47) := ⟨⟨by decide +kernel, by decide +kernel⟩, List.mem_of_getElem? (i := 2816) (by decide +kernel), List.mem_of_getElem? (i := 4145) (by decide +kernel), List.mem_of_getElem? (i := 4146) (by decide +kernel)⟩
theorem lw_p364 : lw_okq (⟨"TimberHouseModel$Rips", "begins", "(II)Z"⟩, 47) := ⟨⟨by decide +kernel, by decide +kernel⟩, List.mem_of_getElem? (i := 2816) (by decide +kernel), List.mem_of_getElem? (i := 4149) (by decide +kernel), List.mem_of_getElem? (i := 4150) (by decide +kernel)⟩
theorem lw_p365 : lw_okq (⟨"TimberHouseModel", "fingers", "(IIIIIII)J"⟩, 16) := ⟨⟨by decide +kernel, by decide +kernel⟩, List.mem_of_getElem? (i := 2736) (by decide +kernel), List.mem_of_getElem? (i := 4163) (by decide +kernel), List.mem_of_getElem? (i := 4164) (by decide +kernel)⟩
theorem lw_p366 : lw_okq (⟨"TimberHouseModel$Fingers", "asTold", "()V"⟩, 36) := ⟨⟨by decide +kernel, by decide +kernel⟩, List.mem_of_getElem? (i := 2971) (by decide +kernel), List.mem_of_getElem? (i := 4196) (by decide +kernel), List.mem_of_getElem? (i := 4197) (by decide +kernel)⟩
theorem lw_p367 : lw_okq (⟨"TimberHouseModel$Fingers", "reckon", "()V"⟩, 36) := ⟨⟨by decide +kernel, by decide +kernel⟩, List.mem_of_getElem? (i := 2971) (by decide +kernel), List.mem_of_getElem? (i := 4200) (by decide +kernel), List.mem_of_getElem? (i := 4201) (by decide +kernel)⟩
def lw_privs_23 : List (MethodName × Nat) := [(⟨"TimberHouseModel$Rips", "walkTwo", "(IIII)V"⟩, 47), (⟨"TimberHouseModel$Rips", "walkThree", "()V"⟩, 47), (⟨"TimberHouseModel$Rips", "allHold", "(Z)Z"⟩, 47), (⟨"TimberHouseModel$Rips", "countOf", "(I)I"⟩, 47), (⟨"TimberHouseModel$Rips", "trueWorth", "()J"⟩, 47), (⟨"TimberHouseModel$Rips", "keep", "()V"⟩, 47), (⟨"TimberHouseModel$Rips", "setPrices", "(I)V"⟩, 47), (⟨"TimberHouseModel$Rips", "bringBack", "()V"⟩, 47), (⟨"TimberHouseModel$Rips", "dropTooMany", "()V"⟩, 47), (⟨"TimberHouseModel$Rips", "drop", "(I)V"⟩, 47), (⟨"TimberHouseModel$Rips", "none", "()Z"⟩, 47), (⟨"TimberHouseModel$Rips", "cover", "()V"⟩, 47), (⟨"TimberHouseModel$Rips", "begins", "(II)Z"⟩, 47), (⟨"TimberHouseModel", "fingers", "(IIIIIII)J"⟩, 16), (⟨"TimberHouseModel$Fingers", "asTold", "()V"⟩, 36), (⟨"TimberHouseModel$Fingers", "reckon", "()V"⟩, 36)]
theorem lw_r23 : ∀ q ∈ lw_privs_23, lw_okq q := List.forall_mem_cons.mpr ⟨lw_p352, List.forall_mem_cons.mpr ⟨lw_p353, List.forall_mem_cons.mpr ⟨lw_p354, List.forall_mem_cons.mpr ⟨lw_p355, List.forall_mem_cons.mpr ⟨lw_p356, List.forall_mem_cons.mpr ⟨lw_p357, List.forall_mem_cons.mpr ⟨lw_p358, List.forall_mem_cons.mpr ⟨lw_p359, List.forall_mem_cons.mpr ⟨lw_p360, List.forall_mem_cons.mpr ⟨lw_p361, List.forall_mem_cons.mpr ⟨lw_p362, List.forall_mem_cons.mpr ⟨lw_p363, List.forall_mem_cons.mpr ⟨lw_p364, List.forall_mem_cons.mpr ⟨lw_p365, List.forall_mem_cons.mpr ⟨lw_p366, List.forall_mem_cons.mpr ⟨lw_p367, fun _ h => absurd h List.not_mem_nil⟩⟩⟩⟩⟩⟩⟩⟩⟩⟩⟩⟩⟩⟩⟩⟩
theorem lw_p368 : lw_okq (⟨"TimberHouseModel$Fingers", "set", "(IJII)V"⟩, 36) := ⟨⟨by decide +kernel, by decide +kernel⟩, List.mem_of_getElem? (i := 2971) (by decide +kernel), List.mem_of_getElem? (i := 4204) (by decide +kernel), List.mem_of_getElem? (i := 4205) (by decide +kernel)⟩
theorem lw_p369 : lw_okq (⟨"TimberHouseModel$Fingers", "follows", "(III)Z"⟩, 36) := ⟨⟨by decide +kernel, by decide +kernel⟩, List.mem_of_getElem? (i := 2971) (by decide +kernel), List.mem_of_getElem? (i := 4208) (by decide +kernel), List.mem_of_getElem? (i := 4209) (by decide +kernel)⟩
theorem lw_p370 : lw_okq (⟨"TimberHouseModel$Fingers", "mayJoin", "(II)Z"⟩, 36) := ⟨⟨by decide +kernel, by decide +kernel⟩, List.mem_of_getElem? (i := 2971) (by decide +kernel), List.mem_of_getElem? (i := 4212) (by decide +kernel), List.mem_of_getElem? (i := 4213) (by decide +kernel)⟩
theorem lw_p371 : lw_okq (⟨"TimberHouseModel$Fingers", "isBarred", "(I)Z"⟩, 36) := ⟨⟨by decide +kernel, by decide +kernel⟩, List.mem_of_getElem? (i := 2971) (by decide +kernel), List.mem_of_getElem? (i := 4216) (by decide +kernel), List.mem_of_getElem? (i := 4217) (by decide +kernel)⟩
theorem lw_p372 : lw_okq (⟨"TimberHouseModel$Fingers", "isBetter", "(IJII)Z"⟩, 36) := ⟨⟨by decide +kernel, by decide +kernel⟩, List.mem_of_getElem? (i := 2971) (by decide +kernel), List.mem_of_getElem? (i := 4220) (by decide +kernel), List.mem_of_getElem? (i := 4221) (by decide +kernel)⟩
theorem lw_p373 : lw_okq (⟨"TimberHouseModel$Fingers", "walk", "()I"⟩, 36) := ⟨⟨by decide +kernel, by decide +kernel⟩, List.mem_of_getElem? (i := 2971) (by decide +kernel), List.mem_of_getElem? (i := 4224) (by decide +kernel), List.mem_of_getElem? (i := 4225) (by decide +kernel)⟩
theorem lw_p374 : lw_okq (⟨"TimberHouseModel$Fingers", "goOn", "(II)I"⟩, 36) := ⟨⟨by decide +kernel, by decide +kernel⟩, List.mem_of_getElem? (i := 2971) (by decide +kernel), List.mem_of_getElem? (i := 4228) (by decide +kernel), List.mem_of_getElem? (i := 4229) (by decide +kernel)⟩
theorem lw_p375 : lw_okq (⟨"TimberHouseModel$Fingers", "put", "(III)V"⟩, 36) := ⟨⟨by decide +kernel, by decide +kernel⟩, List.mem_of_getElem? (i := 2971) (by decide +kernel), List.mem_of_getElem? (i := 4232) (by decide +kernel), List.mem_of_getElem? (i := 4233) (by decide +kernel)⟩
theorem lw_p376 : lw_okq (⟨"TimberHouseModel$Fingers", "orderBy", "(II)V"⟩, 36) := ⟨⟨by decide +kernel, by decide +kernel⟩, List.mem_of_getElem? (i := 2971) (by decide +kernel), List.mem_of_getElem? (i := 4241) (by decide +kernel), List.mem_of_getElem? (i := 4242) (by decide +kernel)⟩
theorem lw_p377 : lw_okq (⟨"TimberHouseModel$Fingers", "none", "()Z"⟩, 36) := ⟨⟨by decide +kernel, by decide +kernel⟩, List.mem_of_getElem? (i := 2971) (by decide +kernel), List.mem_of_getElem? (i := 4249) (by decide +kernel), List.mem_of_getElem? (i := 4250) (by decide +kernel)⟩
theorem lw_p378 : lw_okq (⟨"TimberHouseModel$Fingers", "stopBy", "(IZ)V"⟩, 36) := ⟨⟨by decide +kernel, by decide +kernel⟩, List.mem_of_getElem? (i := 2971) (by decide +kernel), List.mem_of_getElem? (i := 4281) (by decide +kernel), List.mem_of_getElem? (i := 4282) (by decide +kernel)⟩
theorem lw_p379 : lw_okq (⟨"TimberHouseModel", "turned", "(IIIIIII)J"⟩, 16) := ⟨⟨by decide +kernel, by decide +kernel⟩, List.mem_of_getElem? (i := 2736) (by decide +kernel), List.mem_of_getElem? (i := 4294) (by decide +kernel), List.mem_of_getElem? (i := 4295) (by decide +kernel)⟩
theorem lw_p380 : lw_okq (⟨"TimberHouseModel$Turned", "look", "(II)V"⟩, 26) := ⟨⟨by decide +kernel, by decide +kernel⟩, List.mem_of_getElem? (i := 3090) (by decide +kernel), List.mem_of_getElem? (i := 4314) (by decide +kernel), List.mem_of_getElem? (i := 4315) (by decide +kernel)⟩
theorem lw_p381 : lw_okq (⟨"TimberHouseModel$Turned", "lastAt", "()I"⟩, 26) := ⟨⟨by decide +kernel, by decide +kernel⟩, List.mem_of_getElem? (i := 3090) (by decide +kernel), List.mem_of_getElem? (i := 4319) (by decide +kernel), List.mem_of_getElem? (i := 4320) (by decide +kernel)⟩
theorem lw_p382 : lw_okq (⟨"TimberHouseModel$Turned", "add", "(IIIII)V"⟩, 26) := ⟨⟨by decide +kernel, by decide +kernel⟩, List.mem_of_getElem? (i := 3090) (by decide +kernel), List.mem_of_getElem? (i := 4323) (by decide +kernel), List.mem_of_getElem? (i := 4324) (by decide +kernel)⟩
theorem lw_p383 : lw_okq (⟨"TimberHouseModel$Turned", "lastRadius", "()I"⟩, 26) := ⟨⟨by decide +kernel, by decide +kernel⟩, List.mem_of_getElem? (i := 3090) (by decide +kernel), List.mem_of_getElem? (i := 4335) (by decide +kernel), List.mem_of_getElem? (i := 4336) (by decide +kernel)⟩
def lw_privs_24 : List (MethodName × Nat) := [(⟨"TimberHouseModel$Fingers", "set", "(IJII)V"⟩, 36), (⟨"TimberHouseModel$Fingers", "follows", "(III)Z"⟩, 36), (⟨"TimberHouseModel$Fingers", "mayJoin", "(II)Z"⟩, 36), (⟨"TimberHouseModel$Fingers", "isBarred", "(I)Z"⟩, 36), (⟨"TimberHouseModel$Fingers", "isBetter", "(IJII)Z"⟩, 36), (⟨"TimberHouseModel$Fingers", "walk", "()I"⟩, 36), (⟨"TimberHouseModel$Fingers", "goOn", "(II)I"⟩, 36), (⟨"TimberHouseModel$Fingers", "put", "(III)V"⟩, 36), (⟨"TimberHouseModel$Fingers", "orderBy", "(II)V"⟩, 36), (⟨"TimberHouseModel$Fingers", "none", "()Z"⟩, 36), (⟨"TimberHouseModel$Fingers", "stopBy", "(IZ)V"⟩, 36), (⟨"TimberHouseModel", "turned", "(IIIIIII)J"⟩, 16), (⟨"TimberHouseModel$Turned", "look", "(II)V"⟩, 26), (⟨"TimberHouseModel$Turned", "lastAt", "()I"⟩, 26), (⟨"TimberHouseModel$Turned", "add", "(IIIII)V"⟩, 26), (⟨"TimberHouseModel$Turned", "lastRadius", "()I"⟩, 26)]
theorem lw_r24 : ∀ q ∈ lw_privs_24, lw_okq q := List.forall_mem_cons.mpr ⟨lw_p368, List.forall_mem_cons.mpr ⟨lw_p369, List.forall_mem_cons.mpr ⟨lw_p370, List.forall_mem_cons.mpr ⟨lw_p371, List.forall_mem_cons.mpr ⟨lw_p372, List.forall_mem_cons.mpr ⟨lw_p373, List.forall_mem_cons.mpr ⟨lw_p374, List.forall_mem_cons.mpr ⟨lw_p375, List.forall_mem_cons.mpr ⟨lw_p376, List.forall_mem_cons.mpr ⟨lw_p377, List.forall_mem_cons.mpr ⟨lw_p378, List.forall_mem_cons.mpr ⟨lw_p379, List.forall_mem_cons.mpr ⟨lw_p380, List.forall_mem_cons.mpr ⟨lw_p381, List.forall_mem_cons.mpr ⟨lw_p382, List.forall_mem_cons.mpr ⟨lw_p383, fun _ h => absurd h List.not_mem_nil⟩⟩⟩⟩⟩⟩⟩⟩⟩⟩⟩⟩⟩⟩⟩⟩
theorem lw_p384 : lw_okq (⟨"TimberHouseModel$Turned", "onWay", "(IIII)I"⟩, 26) := ⟨⟨by decide +kernel, by decide +kernel⟩, List.mem_of_getElem? (i := 3090) (by decide +kernel), List.mem_of_getElem? (i := 4346) (by decide +kernel), List.mem_of_getElem? (i := 4347) (by decide +kernel)⟩
theorem lw_p385 : lw_okq (⟨"TimberHouseModel$Turned", "hasPlace", "(II)Z"⟩, 26) := ⟨⟨by decide +kernel, by decide +kernel⟩, List.mem_of_getElem? (i := 3090) (by decide +kernel), List.mem_of_getElem? (i := 4357) (by decide +kernel), List.mem_of_getElem? (i := 4358) (by decide +kernel)⟩
theorem lw_p386 : lw_okq (⟨"TimberHouseModel$Turned", "isPiece", "(I)Z"⟩, 26) := ⟨⟨by decide +kernel, by decide +kernel⟩, List.mem_of_getElem? (i := 3090) (by decide +kernel), List.mem_of_getElem? (i := 4361) (by decide +kernel), List.mem_of_getElem? (i := 4362) (by decide +kernel)⟩
theorem lw_p387 : lw_okq (⟨"TimberHouseModel$Turned", "blank", "(I)I"⟩, 26) := ⟨⟨by decide +kernel, by decide +kernel⟩, List.mem_of_getElem? (i := 3090) (by decide +kernel), List.mem_of_getElem? (i := 4370) (by decide +kernel), List.mem_of_getElem? (i := 4371) (by decide +kernel)⟩
theorem lw_p388 : lw_okq (⟨"TimberHouseModel$Turned", "reachAll", "(II)V"⟩, 26) := ⟨⟨by decide +kernel, by decide +kernel⟩, List.mem_of_getElem? (i := 3090) (by decide +kernel), List.mem_of_getElem? (i := 4383) (by decide +kernel), List.mem_of_getElem? (i := 4384) (by decide +kernel)⟩
theorem lw_p389 : lw_okq (⟨"TimberHouseModel$Turned", "lookRough", "(IIII)V"⟩, 26) := ⟨⟨by decide +kernel, by decide +kernel⟩, List.mem_of_getElem? (i := 3090) (by decide +kernel), List.mem_of_getElem? (i := 4395) (by decide +kernel), List.mem_of_getElem? (i := 4396) (by decide +kernel)⟩
theorem lw_p390 : lw_okq (⟨"TimberHouseModel$Turned", "wantedBelow", "(IIJ)I"⟩, 26) := ⟨⟨by decide +kernel, by decide +kernel⟩, List.mem_of_getElem? (i := 3090) (by decide +kernel), List.mem_of_getElem? (i := 4401) (by decide +kernel), List.mem_of_getElem? (i := 4402) (by decide +kernel)⟩
theorem lw_p391 : lw_okq (⟨"TimberHouseModel$Turned", "nextHeld", "(III)I"⟩, 26) := ⟨⟨by decide +kernel, by decide +kernel⟩, List.mem_of_getElem? (i := 3090) (by decide +kernel), List.mem_of_getElem? (i := 4413) (by decide +kernel), List.mem_of_getElem? (i := 4414) (by decide +kernel)⟩
theorem lw_p392 : lw_okq (⟨"TimberHouseModel$Turned", "gapOf", "(I)J"⟩, 26) := ⟨⟨by decide +kernel, by decide +kernel⟩, List.mem_of_getElem? (i := 3090) (by decide +kernel), List.mem_of_getElem? (i := 4452) (by decide +kernel), List.mem_of_getElem? (i := 4453) (by decide +kernel)⟩
theorem lw_p393 : lw_okq (⟨"TimberHouseModel", "nails", "(IIIIIII)J"⟩, 16) := ⟨⟨by decide +kernel, by decide +kernel⟩, List.mem_of_getElem? (i := 2736) (by decide +kernel), List.mem_of_getElem? (i := 4485) (by decide +kernel), List.mem_of_getElem? (i := 4486) (by decide +kernel)⟩
theorem lw_p394 : lw_okq (⟨"TimberHouseModel$Nails", "now", "()I"⟩, 20) := ⟨⟨by decide +kernel, by decide +kernel⟩, List.mem_of_getElem? (i := 3175) (by decide +kernel), List.mem_of_getElem? (i := 4501) (by decide +kernel), List.mem_of_getElem? (i := 4502) (by decide +kernel)⟩
theorem lw_p395 : lw_okq (⟨"TimberHouseModel$Nails", "must", "(Z)V"⟩, 20) := ⟨⟨by decide +kernel, by decide +kernel⟩, List.mem_of_getElem? (i := 3175) (by decide +kernel), List.mem_of_getElem? (i := 4508) (by decide +kernel), List.mem_of_getElem? (i := 4509) (by decide +kernel)⟩
theorem lw_p396 : lw_okq (⟨"TimberHouseModel$Nails", "word", "()I"⟩, 20) := ⟨⟨by decide +kernel, by decide +kernel⟩, List.mem_of_getElem? (i := 3175) (by decide +kernel), List.mem_of_getElem? (i := 4512) (by decide +kernel), List.mem_of_getElem? (i := 4513) (by decide +kernel)⟩
theorem lw_p397 : lw_okq (⟨"TimberHouseModel$Nails", "whole", "(I)I"⟩, 20) := ⟨⟨by decide +kernel, by decide +kernel⟩, List.mem_of_getElem? (i := 3175) (by decide +kernel), List.mem_of_getElem? (i := 4516) (by decide +kernel), List.mem_of_getElem? (i := 4517) (by decide +kernel)⟩
theorem lw_p398 : lw_okq (⟨"TimberHouseModel$Nails", "may", "(III)Z"⟩, 20) := ⟨⟨by decide +kernel, by decide +kernel⟩, List.mem_of_getElem? (i := 3175) (by decide +kernel), List.mem_of_getElem? (i := 4520) (by decide +kernel), List.mem_of_getElem? (i := 4521) (by decide +kernel)⟩
theorem lw_p399 : lw_okq (⟨"TimberHouseModel$Nails", "number", "()I"⟩, 20) := ⟨⟨by decide +kernel, by decide +kernel⟩, List.mem_of_getElem? (i := 3175) (by decide +kernel), List.mem_of_getElem? (i := 4524) (by decide +kernel), List.mem_of_getElem? (i := 4525) (by decide +kernel)⟩
def lw_privs_25 : List (MethodName × Nat) := [(⟨"TimberHouseModel$Turned", "onWay", "(IIII)I"⟩, 26), (⟨"TimberHouseModel$Turned", "hasPlace", "(II)Z"⟩, 26), (⟨"TimberHouseModel$Turned", "isPiece", "(I)Z"⟩, 26), (⟨"TimberHouseModel$Turned", "blank", "(I)I"⟩, 26), (⟨"TimberHouseModel$Turned", "reachAll", "(II)V"⟩, 26), (⟨"TimberHouseModel$Turned", "lookRough", "(IIII)V"⟩, 26), (⟨"TimberHouseModel$Turned", "wantedBelow", "(IIJ)I"⟩, 26), (⟨"TimberHouseModel$Turned", "nextHeld", "(III)I"⟩, 26), (⟨"TimberHouseModel$Turned", "gapOf", "(I)J"⟩, 26), (⟨"TimberHouseModel", "nails", "(IIIIIII)J"⟩, 16), (⟨"TimberHouseModel$Nails", "now", "()I"⟩, 20), (⟨"TimberHouseModel$Nails", "must", "(Z)V"⟩, 20), (⟨"TimberHouseModel$Nails", "word", "()I"⟩, 20), (⟨"TimberHouseModel$Nails", "whole", "(I)I"⟩, 20), (⟨"TimberHouseModel$Nails", "may", "(III)Z"⟩, 20), (⟨"TimberHouseModel$Nails", "number", "()I"⟩, 20)]
theorem lw_r25 : ∀ q ∈ lw_privs_25, lw_okq q := List.forall_mem_cons.mpr ⟨lw_p384, List.forall_mem_cons.mpr ⟨lw_p385, List.forall_mem_cons.mpr ⟨lw_p386, List.forall_mem_cons.mpr ⟨lw_p387, List.forall_mem_cons.mpr ⟨lw_p388, List.forall_mem_cons.mpr ⟨lw_p389, List.forall_mem_cons.mpr ⟨lw_p390, List.forall_mem_cons.mpr ⟨lw_p391, List.forall_mem_cons.mpr ⟨lw_p392, List.forall_mem_cons.mpr ⟨lw_p393, List.forall_mem_cons.mpr ⟨lw_p394, List.forall_mem_cons.mpr ⟨lw_p395, List.forall_mem_cons.mpr ⟨lw_p396, List.forall_mem_cons.mpr ⟨lw_p397, List.forall_mem_cons.mpr ⟨lw_p398, List.forall_mem_cons.mpr ⟨lw_p399, fun _ h => absurd h List.not_mem_nil⟩⟩⟩⟩⟩⟩⟩⟩⟩⟩⟩⟩⟩⟩⟩⟩
theorem lw_p400 : lw_okq (⟨"TimberHouseModel$Nails", "isDigit", "()Z"⟩, 20) := ⟨⟨by decide +kernel, by decide +kernel⟩, List.mem_of_getElem? (i := 3175) (by decide +kernel), List.mem_of_getElem? (i := 4528) (by decide +kernel), List.mem_of_getElem? (i := 4529) (by decide +kernel)⟩
theorem lw_p401 : lw_okq (⟨"TimberHouseModel$Nails", "formula", "(IIJJ)J"⟩, 20) := ⟨⟨by decide +kernel, by decide +kernel⟩, List.mem_of_getElem? (i := 3175) (by decide +kernel), List.mem_of_getElem? (i := 4553) (by decide +kernel), List.mem_of_getElem? (i := 4554) (by decide +kernel)⟩
theorem lw_p402 : lw_okq (⟨"TimberHouseModel$Nails", "all", "(JJ)J"⟩, 20) := ⟨⟨by decide +kernel, by decide +kernel⟩, List.mem_of_getElem? (i := 3175) (by decide +kernel), List.mem_of_getElem? (i := 4564) (by decide +kernel), List.mem_of_getElem? (i := 4565) (by decide +kernel)⟩
theorem lw_p403 : lw_okq (⟨"TimberHouseModel$Nails", "space", "(II)J"⟩, 20) := ⟨⟨by decide +kernel, by decide +kernel⟩, List.mem_of_getElem? (i := 3175) (by decide +kernel), List.mem_of_getElem? (i := 4578) (by decide +kernel), List.mem_of_getElem? (i := 4579) (by decide +kernel)⟩
theorem lw_p404 : lw_okq (⟨"TimberHouseModel$Nails", "noMember", "(I)Z"⟩, 20) := ⟨⟨by decide +kernel, by decide +kernel⟩, List.mem_of_getElem? (i := 3175) (by decide +kernel), List.mem_of_getElem? (i := 4614) (by decide +kernel), List.mem_of_getElem? (i := 4615) (by decide +kernel)⟩
theorem lw_p405 : lw_okq (⟨"TimberHouseModel$Nails", "isWithin", "(IJJ)Z"⟩, 20) := ⟨⟨by decide +kernel, by decide +kernel⟩, List.mem_of_getElem? (i := 3175) (by decide +kernel), List.mem_of_getElem? (i := 4618) (by decide +kernel), List.mem_of_getElem? (i := 4619) (by decide +kernel)⟩
theorem lw_p406 : lw_okq (⟨"TimberHouseModel", "sheets", "(IIIIIII)J"⟩, 16) := ⟨⟨by decide +kernel, by decide +kernel⟩, List.mem_of_getElem? (i := 2736) (by decide +kernel), List.mem_of_getElem? (i := 4635) (by decide +kernel), List.mem_of_getElem? (i := 4636) (by decide +kernel)⟩
theorem lw_p407 : lw_okq (⟨"TimberHouseModel$Sheets", "wantAll", "()V"⟩, 34) := ⟨⟨by decide +kernel, by decide +kernel⟩, List.mem_of_getElem? (i := 3244) (by decide +kernel), List.mem_of_getElem? (i := 4662) (by decide +kernel), List.mem_of_getElem? (i := 4663) (by decide +kernel)⟩
theorem lw_p408 : lw_okq (⟨"TimberHouseModel$Sheets", "fill", "()V"⟩, 34) := ⟨⟨by decide +kernel, by decide +kernel⟩, List.mem_of_getElem? (i := 3244) (by decide +kernel), List.mem_of_getElem? (i := 4666) (by decide +kernel), List.mem_of_getElem? (i := 4667) (by decide +kernel)⟩
theorem lw_p409 : lw_okq (⟨"TimberHouseModel$Sheets", "fillOne", "(IIII)V"⟩, 34) := ⟨⟨by decide +kernel, by decide +kernel⟩, List.mem_of_getElem? (i := 3244) (by decide +kernel), List.mem_of_getElem? (i := 4670) (by decide +kernel), List.mem_of_getElem? (i := 4671) (by decide +kernel)⟩
theorem lw_p410 : lw_okq (⟨"TimberHouseModel$Sheets", "isJust", "(III)Z"⟩, 34) := ⟨⟨by decide +kernel, by decide +kernel⟩, List.mem_of_getElem? (i := 3244) (by decide +kernel), List.mem_of_getElem? (i := 4677) (by decide +kernel), List.mem_of_getElem? (i := 4678) (by decide +kernel)⟩
theorem lw_p411 : lw_okq (⟨"TimberHouseModel$Sheets", "better", "(IIII)V"⟩, 34) := ⟨⟨by decide +kernel, by decide +kernel⟩, List.mem_of_getElem? (i := 3244) (by decide +kernel), List.mem_of_getElem? (i := 4681) (by decide +kernel), List.mem_of_getElem? (i := 4682) (by decide +kernel)⟩
theorem lw_p412 : lw_okq (⟨"TimberHouseModel$Sheets", "walk", "(II)V"⟩, 34) := ⟨⟨by decide +kernel, by decide +kernel⟩, List.mem_of_getElem? (i := 3244) (by decide +kernel), List.mem_of_getElem? (i := 4689) (by decide +kernel), List.mem_of_getElem? (i := 4690) (by decide +kernel)⟩
theorem lw_p413 : lw_okq (⟨"TimberHouseModel$Sheets", "wayOf", "(I)I"⟩, 34) := ⟨⟨by decide +kernel, by decide +kernel⟩, List.mem_of_getElem? (i := 3244) (by decide +kernel), List.mem_of_getElem? (i := 4693) (by decide +kernel), List.mem_of_getElem? (i := 4694) (by decide +kernel)⟩
theorem lw_p414 : lw_okq (⟨"TimberHouseModel$Sheets", "push", "(IIIIIII)V"⟩, 34) := ⟨⟨by decide +kernel, by decide +kernel⟩, List.mem_of_getElem? (i := 3244) (by decide +kernel), List.mem_of_getElem? (i := 4697) (by decide +kernel), List.mem_of_getElem? (i := 4698) (by decide +kernel)⟩
theorem lw_p415 : lw_okq (⟨"TimberHouseModel$Sheets", "keepRest", "(IIIII)V"⟩, 34) := ⟨⟨by decide +kernel, by decide +kernel⟩, List.mem_of_getElem? (i := 3244) (by decide +kernel), List.mem_of_getElem? (i := 4701) (by decide +kernel), List.mem_of_getElem? (i := 4702) (by decide +kernel)⟩
def lw_privs_26 : List (MethodName × Nat) := [(⟨"TimberHouseModel$Nails", "isDigit", "()Z"⟩, 20), (⟨"TimberHouseModel$Nails", "formula", "(IIJJ)J"⟩, 20), (⟨"TimberHouseModel$Nails", "all", "(JJ)J"⟩, 20), (⟨"TimberHouseModel$Nails", "space", "(II)J"⟩, 20), (⟨"TimberHouseModel$Nails", "noMember", "(I)Z"⟩, 20), (⟨"TimberHouseModel$Nails", "isWithin", "(IJJ)Z"⟩, 20), (⟨"TimberHouseModel", "sheets", "(IIIIIII)J"⟩, 16), (⟨"TimberHouseModel$Sheets", "wantAll", "()V"⟩, 34), (⟨"TimberHouseModel$Sheets", "fill", "()V"⟩, 34), (⟨"TimberHouseModel$Sheets", "fillOne", "(IIII)V"⟩, 34), (⟨"TimberHouseModel$Sheets", "isJust", "(III)Z"⟩, 34), (⟨"TimberHouseModel$Sheets", "better", "(IIII)V"⟩, 34), (⟨"TimberHouseModel$Sheets", "walk", "(II)V"⟩, 34), (⟨"TimberHouseModel$Sheets", "wayOf", "(I)I"⟩, 34), (⟨"TimberHouseModel$Sheets", "push", "(IIIIIII)V"⟩, 34), (⟨"TimberHouseModel$Sheets", "keepRest", "(IIIII)V"⟩, 34)]
theorem lw_r26 : ∀ q ∈ lw_privs_26, lw_okq q := List.forall_mem_cons.mpr ⟨lw_p400, List.forall_mem_cons.mpr ⟨lw_p401, List.forall_mem_cons.mpr ⟨lw_p402, List.forall_mem_cons.mpr ⟨lw_p403, List.forall_mem_cons.mpr ⟨lw_p404, List.forall_mem_cons.mpr ⟨lw_p405, List.forall_mem_cons.mpr ⟨lw_p406, List.forall_mem_cons.mpr ⟨lw_p407, List.forall_mem_cons.mpr ⟨lw_p408, List.forall_mem_cons.mpr ⟨lw_p409, List.forall_mem_cons.mpr ⟨lw_p410, List.forall_mem_cons.mpr ⟨lw_p411, List.forall_mem_cons.mpr ⟨lw_p412, List.forall_mem_cons.mpr ⟨lw_p413, List.forall_mem_cons.mpr ⟨lw_p414, List.forall_mem_cons.mpr ⟨lw_p415, fun _ h => absurd h List.not_mem_nil⟩⟩⟩⟩⟩⟩⟩⟩⟩⟩⟩⟩⟩⟩⟩⟩
theorem lw_p416 : lw_okq (⟨"TimberHouseModel$Sheets", "take", "(IIIIII)V"⟩, 34) := ⟨⟨by decide +kernel, by decide +kernel⟩, List.mem_of_getElem? (i := 3244) (by decide +kernel), List.mem_of_getElem? (i := 4705) (by decide +kernel), List.mem_of_getElem? (i := 4706) (by decide +kernel)⟩
theorem lw_p417 : lw_okq (⟨"TimberHouseModel$Sheets", "look", "(III)V"⟩, 34) := ⟨⟨by decide +kernel, by decide +kernel⟩, List.mem_of_getElem? (i := 3244) (by decide +kernel), List.mem_of_getElem? (i := 4713) (by decide +kernel), List.mem_of_getElem? (i := 4714) (by decide +kernel)⟩
theorem lw_p418 : lw_okq (⟨"TimberHouseModel$Sheets", "isAlike", "(II)Z"⟩, 34) := ⟨⟨by decide +kernel, by decide +kernel⟩, List.mem_of_getElem? (i := 3244) (by decide +kernel), List.mem_of_getElem? (i := 4717) (by decide +kernel), List.mem_of_getElem? (i := 4718) (by decide +kernel)⟩
theorem lw_p419 : lw_okq (⟨"TimberHouseModel", "router", "(IIIIIII)J"⟩, 16) := ⟨⟨by decide +kernel, by decide +kernel⟩, List.mem_of_getElem? (i := 2736) (by decide +kernel), List.mem_of_getElem? (i := 4741) (by decide +kernel), List.mem_of_getElem? (i := 4742) (by decide +kernel)⟩
theorem lw_p420 : lw_okq (⟨"TimberHouseModel$Router", "spanFault", "(IIIIZ)I"⟩, 23) := ⟨⟨by decide +kernel, by decide +kernel⟩, List.mem_of_getElem? (i := 3353) (by decide +kernel), List.mem_of_getElem? (i := 4752) (by decide +kernel), List.mem_of_getElem? (i := 4753) (by decide +kernel)⟩
theorem lw_p421 : lw_okq (⟨"TimberHouseModel$Router", "isCell", "(II)Z"⟩, 23) := ⟨⟨by decide +kernel, by decide +kernel⟩, List.mem_of_getElem? (i := 3353) (by decide +kernel), List.mem_of_getElem? (i := 4756) (by decide +kernel), List.mem_of_getElem? (i := 4757) (by decide +kernel)⟩
theorem lw_p422 : lw_okq (⟨"TimberHouseModel$Router", "spaces", "()V"⟩, 23) := ⟨⟨by decide +kernel, by decide +kernel⟩, List.mem_of_getElem? (i := 3353) (by decide +kernel), List.mem_of_getElem? (i := 4780) (by decide +kernel), List.mem_of_getElem? (i := 4781) (by decide +kernel)⟩
theorem lw_p423 : lw_okq (⟨"TimberHouseModel$Router", "now", "()I"⟩, 23) := ⟨⟨by decide +kernel, by decide +kernel⟩, List.mem_of_getElem? (i := 3353) (by decide +kernel), List.mem_of_getElem? (i := 4784) (by decide +kernel), List.mem_of_getElem? (i := 4785) (by decide +kernel)⟩
theorem lw_p424 : lw_okq (⟨"TimberHouseModel$Router", "statement", "(I)V"⟩, 23) := ⟨⟨by decide +kernel, by decide +kernel⟩, List.mem_of_getElem? (i := 3353) (by decide +kernel), List.mem_of_getElem? (i := 4788) (by decide +kernel), List.mem_of_getElem? (i := 4789) (by decide +kernel)⟩
theorem lw_p425 : lw_okq (⟨"TimberHouseModel$Router", "must", "(Z)V"⟩, 23) := ⟨⟨by decide +kernel, by decide +kernel⟩, List.mem_of_getElem? (i := 3353) (by decide +kernel), List.mem_of_getElem? (i := 4792) (by decide +kernel), List.mem_of_getElem? (i := 4793) (by decide +kernel)⟩
theorem lw_p426 : lw_okq (⟨"TimberHouseModel$Router", "digit", "(I)I"⟩, 23) := ⟨⟨by decide +kernel, by decide +kernel⟩, List.mem_of_getElem? (i := 3353) (by decide +kernel), List.mem_of_getElem? (i := 4796) (by decide +kernel), List.mem_of_getElem? (i := 4797) (by decide +kernel)⟩
theorem lw_p427 : lw_okq (⟨"TimberHouseModel$Router", "number", "(I)I"⟩, 23) := ⟨⟨by decide +kernel, by decide +kernel⟩, List.mem_of_getElem? (i := 3353) (by decide +kernel), List.mem_of_getElem? (i := 4800) (by decide +kernel), List.mem_of_getElem? (i := 4801) (by decide +kernel)⟩
theorem lw_p428 : lw_okq (⟨"TimberHouseModel$Router", "go", "(I)I"⟩, 23) := ⟨⟨by decide +kernel, by decide +kernel⟩, List.mem_of_getElem? (i := 3353) (by decide +kernel), List.mem_of_getElem? (i := 4808) (by decide +kernel), List.mem_of_getElem? (i := 4809) (by decide +kernel)⟩
theorem lw_p429 : lw_okq (⟨"TimberHouseModel$Router", "step", "(IIII)I"⟩, 23) := ⟨⟨by decide +kernel, by decide +kernel⟩, List.mem_of_getElem? (i := 3353) (by decide +kernel), List.mem_of_getElem? (i := 4815) (by decide +kernel), List.mem_of_getElem? (i := 4816) (by decide +kernel)⟩
theorem lw_p430 : lw_okq (⟨"TimberHouseModel$Router", "isInDisc", "(IIII)Z"⟩, 23) := ⟨⟨by decide +kernel, by decide +kernel⟩, List.mem_of_getElem? (i := 3353) (by decide +kernel), List.mem_of_getElem? (i := 4819) (by decide +kernel), List.mem_of_getElem? (i := 4820) (by decide +kernel)⟩
theorem lw_p431 : lw_okq (⟨"TimberHouseModel$Router", "spares", "(IIII)Z"⟩, 23) := ⟨⟨by decide +kernel, by decide +kernel⟩, List.mem_of_getElem? (i := 3353) (by decide +kernel), List.mem_of_getElem? (i := 4842) (by decide +kernel), List.mem_of_getElem? (i := 4843) (by decide +kernel)⟩
def lw_privs_27 : List (MethodName × Nat) := [(⟨"TimberHouseModel$Sheets", "take", "(IIIIII)V"⟩, 34), (⟨"TimberHouseModel$Sheets", "look", "(III)V"⟩, 34), (⟨"TimberHouseModel$Sheets", "isAlike", "(II)Z"⟩, 34), (⟨"TimberHouseModel", "router", "(IIIIIII)J"⟩, 16), (⟨"TimberHouseModel$Router", "spanFault", "(IIIIZ)I"⟩, 23), (⟨"TimberHouseModel$Router", "isCell", "(II)Z"⟩, 23), (⟨"TimberHouseModel$Router", "spaces", "()V"⟩, 23), (⟨"TimberHouseModel$Router", "now", "()I"⟩, 23), (⟨"TimberHouseModel$Router", "statement", "(I)V"⟩, 23), (⟨"TimberHouseModel$Router", "must", "(Z)V"⟩, 23), (⟨"TimberHouseModel$Router", "digit", "(I)I"⟩, 23), (⟨"TimberHouseModel$Router", "number", "(I)I"⟩, 23), (⟨"TimberHouseModel$Router", "go", "(I)I"⟩, 23), (⟨"TimberHouseModel$Router", "step", "(IIII)I"⟩, 23), (⟨"TimberHouseModel$Router", "isInDisc", "(IIII)Z"⟩, 23), (⟨"TimberHouseModel$Router", "spares", "(IIII)Z"⟩, 23)]
theorem lw_r27 : ∀ q ∈ lw_privs_27, lw_okq q := List.forall_mem_cons.mpr ⟨lw_p416, List.forall_mem_cons.mpr ⟨lw_p417, List.forall_mem_cons.mpr ⟨lw_p418, List.forall_mem_cons.mpr ⟨lw_p419, List.forall_mem_cons.mpr ⟨lw_p420, List.forall_mem_cons.mpr ⟨lw_p421, List.forall_mem_cons.mpr ⟨lw_p422, List.forall_mem_cons.mpr ⟨lw_p423, List.forall_mem_cons.mpr ⟨lw_p424, List.forall_mem_cons.mpr ⟨lw_p425, List.forall_mem_cons.mpr ⟨lw_p426, List.forall_mem_cons.mpr ⟨lw_p427, List.forall_mem_cons.mpr ⟨lw_p428, List.forall_mem_cons.mpr ⟨lw_p429, List.forall_mem_cons.mpr ⟨lw_p430, List.forall_mem_cons.mpr ⟨lw_p431, fun _ h => absurd h List.not_mem_nil⟩⟩⟩⟩⟩⟩⟩⟩⟩⟩⟩⟩⟩⟩⟩⟩
theorem lw_p432 : lw_okq (⟨"TimberHouseModel$Router", "flood", "(I)V"⟩, 23) := ⟨⟨by decide +kernel, by decide +kernel⟩, List.mem_of_getElem? (i := 3353) (by decide +kernel), List.mem_of_getElem? (i := 4850) (by decide +kernel), List.mem_of_getElem? (i := 4851) (by decide +kernel)⟩
theorem lw_p433 : lw_okq (⟨"TimberHouseModel", "plans", "(IIIIIII)J"⟩, 16) := ⟨⟨by decide +kernel, by decide +kernel⟩, List.mem_of_getElem? (i := 2736) (by decide +kernel), List.mem_of_getElem? (i := 4858) (by decide +kernel), List.mem_of_getElem? (i := 4859) (by decide +kernel)⟩
theorem lw_p434 : lw_okq (⟨"TimberHouseModel$Plans", "allFit", "()Z"⟩, 34) := ⟨⟨by decide +kernel, by decide +kernel⟩, List.mem_of_getElem? (i := 3429) (by decide +kernel), List.mem_of_getElem? (i := 4893) (by decide +kernel), List.mem_of_getElem? (i := 4894) (by decide +kernel)⟩
theorem lw_p435 : lw_okq (⟨"TimberHouseModel$Plans", "fits", "(I)Z"⟩, 34) := ⟨⟨by decide +kernel, by decide +kernel⟩, List.mem_of_getElem? (i := 3429) (by decide +kernel), List.mem_of_getElem? (i := 4897) (by decide +kernel), List.mem_of_getElem? (i := 4898) (by decide +kernel)⟩
theorem lw_p436 : lw_okq (⟨"TimberHouseModel$Plans", "keepWas", "()V"⟩, 34) := ⟨⟨by decide +kernel, by decide +kernel⟩, List.mem_of_getElem? (i := 3429) (by decide +kernel), List.mem_of_getElem? (i := 4901) (by decide +kernel), List.mem_of_getElem? (i := 4902) (by decide +kernel)⟩
theorem lw_p437 : lw_okq (⟨"TimberHouseModel$Plans", "search", "(I)I"⟩, 34) := ⟨⟨by decide +kernel, by decide +kernel⟩, List.mem_of_getElem? (i := 3429) (by decide +kernel), List.mem_of_getElem? (i := 4905) (by decide +kernel), List.mem_of_getElem? (i := 4906) (by decide +kernel)⟩
theorem lw_p438 : lw_okq (⟨"TimberHouseModel$Plans", "layByDue", "()V"⟩, 34) := ⟨⟨by decide +kernel, by decide +kernel⟩, List.mem_of_getElem? (i := 3429) (by decide +kernel), List.mem_of_getElem? (i := 4909) (by decide +kernel), List.mem_of_getElem? (i := 4910) (by decide +kernel)⟩
theorem lw_p439 : lw_okq (⟨"TimberHouseModel$Plans", "costOfRow", "(I)J"⟩, 34) := ⟨⟨by decide +kernel, by decide +kernel⟩, List.mem_of_getElem? (i := 3429) (by decide +kernel), List.mem_of_getElem? (i := 4913) (by decide +kernel), List.mem_of_getElem? (i := 4914) (by decide +kernel)⟩
theorem lw_p440 : lw_okq (⟨"TimberHouseModel$Plans", "clearBoard", "()V"⟩, 34) := ⟨⟨by decide +kernel, by decide +kernel⟩, List.mem_of_getElem? (i := 3429) (by decide +kernel), List.mem_of_getElem? (i := 4917) (by decide +kernel), List.mem_of_getElem? (i := 4918) (by decide +kernel)⟩
theorem lw_p441 : lw_okq (⟨"TimberHouseModel$Plans", "place", "(I)I"⟩, 34) := ⟨⟨by decide +kernel, by decide +kernel⟩, List.mem_of_getElem? (i := 3429) (by decide +kernel), List.mem_of_getElem? (i := 4921) (by decide +kernel), List.mem_of_getElem? (i := 4922) (by decide +kernel)⟩
theorem lw_p442 : lw_okq (⟨"TimberHouseModel$Plans", "freeFrom", "(III)I"⟩, 34) := ⟨⟨by decide +kernel, by decide +kernel⟩, List.mem_of_getElem? (i := 3429) (by decide +kernel), List.mem_of_getElem? (i := 4925) (by decide +kernel), List.mem_of_getElem? (i := 4926) (by decide +kernel)⟩
theorem lw_p443 : lw_okq (⟨"TimberHouseModel$Plans", "costOf", "(II)J"⟩, 34) := ⟨⟨by decide +kernel, by decide +kernel⟩, List.mem_of_getElem? (i := 3429) (by decide +kernel), List.mem_of_getElem? (i := 4932) (by decide +kernel), List.mem_of_getElem? (i := 4933) (by decide +kernel)⟩
theorem lw_p444 : lw_okq (⟨"TimberHouseModel$Plans", "toPlan", "()V"⟩, 34) := ⟨⟨by decide +kernel, by decide +kernel⟩, List.mem_of_getElem? (i := 3429) (by decide +kernel), List.mem_of_getElem? (i := 4936) (by decide +kernel), List.mem_of_getElem? (i := 4937) (by decide +kernel)⟩
theorem lw_p445 : lw_okq (⟨"TimberHouseModel$Plans", "least", "(I)J"⟩, 34) := ⟨⟨by decide +kernel, by decide +kernel⟩, List.mem_of_getElem? (i := 3429) (by decide +kernel), List.mem_of_getElem? (i := 4940) (by decide +kernel), List.mem_of_getElem? (i := 4941) (by decide +kernel)⟩
theorem lw_p446 : lw_okq (⟨"TimberHouseModel$Plans", "aloneOf", "(I)J"⟩, 34) := ⟨⟨by decide +kernel, by decide +kernel⟩, List.mem_of_getElem? (i := 3429) (by decide +kernel), List.mem_of_getElem? (i := 4944) (by decide +kernel), List.mem_of_getElem? (i := 4945) (by decide +kernel)⟩
theorem lw_p447 : lw_okq (⟨"TimberHouseModel$Plans", "become", "()V"⟩, 34) := ⟨⟨by decide +kernel, by decide +kernel⟩, List.mem_of_getElem? (i := 3429) (by decide +kernel), List.mem_of_getElem? (i := 4948) (by decide +kernel), List.mem_of_getElem? (i := 4949) (by decide +kernel)⟩
def lw_privs_28 : List (MethodName × Nat) := [(⟨"TimberHouseModel$Router", "flood", "(I)V"⟩, 23), (⟨"TimberHouseModel", "plans", "(IIIIIII)J"⟩, 16), (⟨"TimberHouseModel$Plans", "allFit", "()Z"⟩, 34), (⟨"TimberHouseModel$Plans", "fits", "(I)Z"⟩, 34), (⟨"TimberHouseModel$Plans", "keepWas", "()V"⟩, 34), (⟨"TimberHouseModel$Plans", "search", "(I)I"⟩, 34), (⟨"TimberHouseModel$Plans", "layByDue", "()V"⟩, 34), (⟨"TimberHouseModel$Plans", "costOfRow", "(I)J"⟩, 34), (⟨"TimberHouseModel$Plans", "clearBoard", "()V"⟩, 34), (⟨"TimberHouseModel$Plans", "place", "(I)I"⟩, 34), (⟨"TimberHouseModel$Plans", "freeFrom", "(III)I"⟩, 34), (⟨"TimberHouseModel$Plans", "costOf", "(II)J"⟩, 34), (⟨"TimberHouseModel$Plans", "toPlan", "()V"⟩, 34), (⟨"TimberHouseModel$Plans", "least", "(I)J"⟩, 34), (⟨"TimberHouseModel$Plans", "aloneOf", "(I)J"⟩, 34), (⟨"TimberHouseModel$Plans", "become", "()V"⟩, 34)]
theorem lw_r28 : ∀ q ∈ lw_privs_28, lw_okq q := List.forall_mem_cons.mpr ⟨lw_p432, List.forall_mem_cons.mpr ⟨lw_p433, List.forall_mem_cons.mpr ⟨lw_p434, List.forall_mem_cons.mpr ⟨lw_p435, List.forall_mem_cons.mpr ⟨lw_p436, List.forall_mem_cons.mpr ⟨lw_p437, List.forall_mem_cons.mpr ⟨lw_p438, List.forall_mem_cons.mpr ⟨lw_p439, List.forall_mem_cons.mpr ⟨lw_p440, List.forall_mem_cons.mpr ⟨lw_p441, List.forall_mem_cons.mpr ⟨lw_p442, List.forall_mem_cons.mpr ⟨lw_p443, List.forall_mem_cons.mpr ⟨lw_p444, List.forall_mem_cons.mpr ⟨lw_p445, List.forall_mem_cons.mpr ⟨lw_p446, List.forall_mem_cons.mpr ⟨lw_p447, fun _ h => absurd h List.not_mem_nil⟩⟩⟩⟩⟩⟩⟩⟩⟩⟩⟩⟩⟩⟩⟩⟩
theorem lw_p448 : lw_okq (⟨"TimberHouseModel$Plans", "draw", "()I"⟩, 34) := ⟨⟨by decide +kernel, by decide +kernel⟩, List.mem_of_getElem? (i := 3429) (by decide +kernel), List.mem_of_getElem? (i := 4956) (by decide +kernel), List.mem_of_getElem? (i := 4957) (by decide +kernel)⟩
theorem lw_p449 : lw_okq (⟨"TimberHouseModel$Plans", "swap", "(II)V"⟩, 34) := ⟨⟨by decide +kernel, by decide +kernel⟩, List.mem_of_getElem? (i := 3429) (by decide +kernel), List.mem_of_getElem? (i := 4962) (by decide +kernel), List.mem_of_getElem? (i := 4963) (by decide +kernel)⟩
theorem lw_p450 : lw_okq (⟨"TimberHouseModel$Plans", "canBoth", "(II)Z"⟩, 34) := ⟨⟨by decide +kernel, by decide +kernel⟩, List.mem_of_getElem? (i := 3429) (by decide +kernel), List.mem_of_getElem? (i := 4990) (by decide +kernel), List.mem_of_getElem? (i := 4991) (by decide +kernel)⟩
theorem lw_p451 : lw_okq (⟨"TimberHouseModel$Plans", "breaks", "(II)Z"⟩, 34) := ⟨⟨by decide +kernel, by decide +kernel⟩, List.mem_of_getElem? (i := 3429) (by decide +kernel), List.mem_of_getElem? (i := 4998) (by decide +kernel), List.mem_of_getElem? (i := 4999) (by decide +kernel)⟩
theorem lw_p452 : lw_okq (⟨"TimberHouseModel$Plans", "before", "(I)I"⟩, 34) := ⟨⟨by decide +kernel, by decide +kernel⟩, List.mem_of_getElem? (i := 3429) (by decide +kernel), List.mem_of_getElem? (i := 5002) (by decide +kernel), List.mem_of_getElem? (i := 5003) (by decide +kernel)⟩
theorem lw_p453 : lw_okq (⟨"TimberHouseModel$Plans", "isLate", "(I)Z"⟩, 34) := ⟨⟨by decide +kernel, by decide +kernel⟩, List.mem_of_getElem? (i := 3429) (by decide +kernel), List.mem_of_getElem? (i := 5006) (by decide +kernel), List.mem_of_getElem? (i := 5007) (by decide +kernel)⟩
theorem lw_p454 : lw_okq (⟨"TimberHouseModel", "prices", "(IIIIIII)J"⟩, 16) := ⟨⟨by decide +kernel, by decide +kernel⟩, List.mem_of_getElem? (i := 2736) (by decide +kernel), List.mem_of_getElem? (i := 5010) (by decide +kernel), List.mem_of_getElem? (i := 5011) (by decide +kernel)⟩
theorem lw_p455 : lw_okq (⟨"TimberHouseModel$Prices", "fault", "()I"⟩, 35) := ⟨⟨by decide +kernel, by decide +kernel⟩, List.mem_of_getElem? (i := 3538) (by decide +kernel), List.mem_of_getElem? (i := 5031) (by decide +kernel), List.mem_of_getElem? (i := 5032) (by decide +kernel)⟩
theorem lw_p456 : lw_okq (⟨"TimberHouseModel$Prices", "factFault", "(III)I"⟩, 35) := ⟨⟨by decide +kernel, by decide +kernel⟩, List.mem_of_getElem? (i := 3538) (by decide +kernel), List.mem_of_getElem? (i := 5049) (by decide +kernel), List.mem_of_getElem? (i := 5050) (by decide +kernel)⟩
theorem lw_p457 : lw_okq (⟨"TimberHouseModel$Prices", "setFact", "(III)V"⟩, 35) := ⟨⟨by decide +kernel, by decide +kernel⟩, List.mem_of_getElem? (i := 3538) (by decide +kernel), List.mem_of_getElem? (i := 5059) (by decide +kernel), List.mem_of_getElem? (i := 5060) (by decide +kernel)⟩
theorem lw_p458 : lw_okq (⟨"TimberHouseModel$Prices", "make", "(JJ)Z"⟩, 35) := ⟨⟨by decide +kernel, by decide +kernel⟩, List.mem_of_getElem? (i := 3538) (by decide +kernel), List.mem_of_getElem? (i := 5063) (by decide +kernel), List.mem_of_getElem? (i := 5064) (by decide +kernel)⟩
theorem lw_p459 : lw_okq (⟨"TimberHouseModel$Prices", "reckon", "()V"⟩, 35) := ⟨⟨by decide +kernel, by decide +kernel⟩, List.mem_of_getElem? (i := 3538) (by decide +kernel), List.mem_of_getElem? (i := 5079) (by decide +kernel), List.mem_of_getElem? (i := 5080) (by decide +kernel)⟩
theorem lw_p460 : lw_okq (⟨"TimberHouseModel$Prices", "step", "(I)I"⟩, 35) := ⟨⟨by decide +kernel, by decide +kernel⟩, List.mem_of_getElem? (i := 3538) (by decide +kernel), List.mem_of_getElem? (i := 5083) (by decide +kernel), List.mem_of_getElem? (i := 5084) (by decide +kernel)⟩
theorem lw_p461 : lw_okq (⟨"TimberHouseModel$Prices", "lay", "()V"⟩, 35) := ⟨⟨by decide +kernel, by decide +kernel⟩, List.mem_of_getElem? (i := 3538) (by decide +kernel), List.mem_of_getElem? (i := 5087) (by decide +kernel), List.mem_of_getElem? (i := 5088) (by decide +kernel)⟩
theorem lw_p462 : lw_okq (⟨"TimberHouseModel$Prices", "two", "(I)I"⟩, 35) := ⟨⟨by decide +kernel, by decide +kernel⟩, List.mem_of_getElem? (i := 3538) (by decide +kernel), List.mem_of_getElem? (i := 5091) (by decide +kernel), List.mem_of_getElem? (i := 5092) (by decide +kernel)⟩
theorem lw_p463 : lw_okq (⟨"TimberHouseModel$Prices", "add", "(JJJJ)Z"⟩, 35) := ⟨⟨by decide +kernel, by decide +kernel⟩, List.mem_of_getElem? (i := 3538) (by decide +kernel), List.mem_of_getElem? (i := 5095) (by decide +kernel), List.mem_of_getElem? (i := 5096) (by decide +kernel)⟩
def lw_privs_29 : List (MethodName × Nat) := [(⟨"TimberHouseModel$Plans", "draw", "()I"⟩, 34), (⟨"TimberHouseModel$Plans", "swap", "(II)V"⟩, 34), (⟨"TimberHouseModel$Plans", "canBoth", "(II)Z"⟩, 34), (⟨"TimberHouseModel$Plans", "breaks", "(II)Z"⟩, 34), (⟨"TimberHouseModel$Plans", "before", "(I)I"⟩, 34), (⟨"TimberHouseModel$Plans", "isLate", "(I)Z"⟩, 34), (⟨"TimberHouseModel", "prices", "(IIIIIII)J"⟩, 16), (⟨"TimberHouseModel$Prices", "fault", "()I"⟩, 35), (⟨"TimberHouseModel$Prices", "factFault", "(III)I"⟩, 35), (⟨"TimberHouseModel$Prices", "setFact", "(III)V"⟩, 35), (⟨"TimberHouseModel$Prices", "make", "(JJ)Z"⟩, 35), (⟨"TimberHouseModel$Prices", "reckon", "()V"⟩, 35), (⟨"TimberHouseModel$Prices", "step", "(I)I"⟩, 35), (⟨"TimberHouseModel$Prices", "lay", "()V"⟩, 35), (⟨"TimberHouseModel$Prices", "two", "(I)I"⟩, 35), (⟨"TimberHouseModel$Prices", "add", "(JJJJ)Z"⟩, 35)]
theorem lw_r29 : ∀ q ∈ lw_privs_29, lw_okq q := List.forall_mem_cons.mpr ⟨lw_p448, List.forall_mem_cons.mpr ⟨lw_p449, List.forall_mem_cons.mpr ⟨lw_p450, List.forall_mem_cons.mpr ⟨lw_p451, List.forall_mem_cons.mpr ⟨lw_p452, List.forall_mem_cons.mpr ⟨lw_p453, List.forall_mem_cons.mpr ⟨lw_p454, List.forall_mem_cons.mpr ⟨lw_p455, List.forall_mem_cons.mpr ⟨lw_p456, List.forall_mem_cons.mpr ⟨lw_p457, List.forall_mem_cons.mpr ⟨lw_p458, List.forall_mem_cons.mpr ⟨lw_p459, List.forall_mem_cons.mpr ⟨lw_p460, List.forall_mem_cons.mpr ⟨lw_p461, List.forall_mem_cons.mpr ⟨lw_p462, List.forall_mem_cons.mpr ⟨lw_p463, fun _ h => absurd h List.not_mem_nil⟩⟩⟩⟩⟩⟩⟩⟩⟩⟩⟩⟩⟩⟩⟩⟩
theorem lw_p464 : lw_okq (⟨"TimberHouseModel$Prices", "round", "()I"⟩, 35) := ⟨⟨by decide +kernel, by decide +kernel⟩, List.mem_of_getElem? (i := 3538) (by decide +kernel), List.mem_of_getElem? (i := 5099) (by decide +kernel), List.mem_of_getElem? (i := 5100) (by decide +kernel)⟩
theorem lw_p465 : lw_okq (⟨"TimberHouseModel$Prices", "end", "(I)I"⟩, 35) := ⟨⟨by decide +kernel, by decide +kernel⟩, List.mem_of_getElem? (i := 3538) (by decide +kernel), List.mem_of_getElem? (i := 5109) (by decide +kernel), List.mem_of_getElem? (i := 5110) (by decide +kernel)⟩
theorem lw_p466 : lw_okq (⟨"TimberHouseModel$Prices", "centsNow", "()J"⟩, 35) := ⟨⟨by decide +kernel, by decide +kernel⟩, List.mem_of_getElem? (i := 3538) (by decide +kernel), List.mem_of_getElem? (i := 5117) (by decide +kernel), List.mem_of_getElem? (i := 5118) (by decide +kernel)⟩
theorem lw_p467 : lw_okq (⟨"TimberHouseModel$Prices", "at", "(JI)J"⟩, 35) := ⟨⟨by decide +kernel, by decide +kernel⟩, List.mem_of_getElem? (i := 3538) (by decide +kernel), List.mem_of_getElem? (i := 5139) (by decide +kernel), List.mem_of_getElem? (i := 5140) (by decide +kernel)⟩
theorem lw_p468 : lw_okq (⟨"TimberHouseModel$Prices", "noOffer", "(I)Z"⟩, 35) := ⟨⟨by decide +kernel, by decide +kernel⟩, List.mem_of_getElem? (i := 3538) (by decide +kernel), List.mem_of_getElem? (i := 5152) (by decide +kernel), List.mem_of_getElem? (i := 5153) (by decide +kernel)⟩
theorem lw_p469 : lw_okq (⟨"TimberHouseModel$Prices", "noInvoice", "(I)Z"⟩, 35) := ⟨⟨by decide +kernel, by decide +kernel⟩, List.mem_of_getElem? (i := 3538) (by decide +kernel), List.mem_of_getElem? (i := 5168) (by decide +kernel), List.mem_of_getElem? (i := 5169) (by decide +kernel)⟩
theorem lw_p470 : lw_okq (⟨"TimberHouseModel", "shop", "(IIIIIII)J"⟩, 16) := ⟨⟨by decide +kernel, by decide +kernel⟩, List.mem_of_getElem? (i := 2736) (by decide +kernel), List.mem_of_getElem? (i := 5181) (by decide +kernel), List.mem_of_getElem? (i := 5182) (by decide +kernel)⟩
theorem lw_p471 : lw_okq (⟨"TimberHouseModel$Shop", "find", "(IJ)I"⟩, 22) := ⟨⟨by decide +kernel, by decide +kernel⟩, List.mem_of_getElem? (i := 3649) (by decide +kernel), List.mem_of_getElem? (i := 5197) (by decide +kernel), List.mem_of_getElem? (i := 5198) (by decide +kernel)⟩
theorem lw_p472 : lw_okq (⟨"TimberHouseModel$Shop", "isSet", "(I)Z"⟩, 22) := ⟨⟨by decide +kernel, by decide +kernel⟩, List.mem_of_getElem? (i := 3649) (by decide +kernel), List.mem_of_getElem? (i := 5213) (by decide +kernel), List.mem_of_getElem? (i := 5214) (by decide +kernel)⟩
theorem lw_p473 : lw_okq (⟨"TimberHouseModel$Shop", "has", "(II)Z"⟩, 22) := ⟨⟨by decide +kernel, by decide +kernel⟩, List.mem_of_getElem? (i := 3649) (by decide +kernel), List.mem_of_getElem? (i := 5217) (by decide +kernel), List.mem_of_getElem? (i := 5218) (by decide +kernel)⟩
theorem lw_p474 : lw_okq (⟨"TimberHouseModel$Shop", "add", "(II)V"⟩, 22) := ⟨⟨by decide +kernel, by decide +kernel⟩, List.mem_of_getElem? (i := 3649) (by decide +kernel), List.mem_of_getElem? (i := 5221) (by decide +kernel), List.mem_of_getElem? (i := 5222) (by decide +kernel)⟩
theorem lw_p475 : lw_okq (⟨"TimberHouseModel$Shop", "known", "(IIIIJ)J"⟩, 22) := ⟨⟨by decide +kernel, by decide +kernel⟩, List.mem_of_getElem? (i := 3649) (by decide +kernel), List.mem_of_getElem? (i := 5233) (by decide +kernel), List.mem_of_getElem? (i := 5234) (by decide +kernel)⟩
theorem lw_p476 : lw_okq (⟨"TimberHouseModel$Shop", "speaks", "(IIIJ)Z"⟩, 22) := ⟨⟨by decide +kernel, by decide +kernel⟩, List.mem_of_getElem? (i := 3649) (by decide +kernel), List.mem_of_getElem? (i := 5237) (by decide +kernel), List.mem_of_getElem? (i := 5238) (by decide +kernel)⟩
theorem lw_p477 : lw_okq (⟨"TimberHouseModel$Shop", "isSettled", "(IIIJ)Z"⟩, 22) := ⟨⟨by decide +kernel, by decide +kernel⟩, List.mem_of_getElem? (i := 3649) (by decide +kernel), List.mem_of_getElem? (i := 5241) (by decide +kernel), List.mem_of_getElem? (i := 5242) (by decide +kernel)⟩
theorem lw_p478 : lw_okq (⟨"TimberHouseModel$Shop", "latest", "(IIIIJ)I"⟩, 22) := ⟨⟨by decide +kernel, by decide +kernel⟩, List.mem_of_getElem? (i := 3649) (by decide +kernel), List.mem_of_getElem? (i := 5245) (by decide +kernel), List.mem_of_getElem? (i := 5246) (by decide +kernel)⟩
theorem lw_p479 : lw_okq (⟨"TimberHouseModel$Shop", "later", "(II)I"⟩, 22) := ⟨⟨by decide +kernel, by decide +kernel⟩, List.mem_of_getElem? (i := 3649) (by decide +kernel), List.mem_of_getElem? (i := 5249) (by decide +kernel), List.mem_of_getElem? (i := 5250) (by decide +kernel)⟩
def lw_privs_30 : List (MethodName × Nat) := [(⟨"TimberHouseModel$Prices", "round", "()I"⟩, 35), (⟨"TimberHouseModel$Prices", "end", "(I)I"⟩, 35), (⟨"TimberHouseModel$Prices", "centsNow", "()J"⟩, 35), (⟨"TimberHouseModel$Prices", "at", "(JI)J"⟩, 35), (⟨"TimberHouseModel$Prices", "noOffer", "(I)Z"⟩, 35), (⟨"TimberHouseModel$Prices", "noInvoice", "(I)Z"⟩, 35), (⟨"TimberHouseModel", "shop", "(IIIIIII)J"⟩, 16), (⟨"TimberHouseModel$Shop", "find", "(IJ)I"⟩, 22), (⟨"TimberHouseModel$Shop", "isSet", "(I)Z"⟩, 22), (⟨"TimberHouseModel$Shop", "has", "(II)Z"⟩, 22), (⟨"TimberHouseModel$Shop", "add", "(II)V"⟩, 22), (⟨"TimberHouseModel$Shop", "known", "(IIIIJ)J"⟩, 22), (⟨"TimberHouseModel$Shop", "speaks", "(IIIJ)Z"⟩, 22), (⟨"TimberHouseModel$Shop", "isSettled", "(IIIJ)Z"⟩, 22), (⟨"TimberHouseModel$Shop", "latest", "(IIIIJ)I"⟩, 22), (⟨"TimberHouseModel$Shop", "later", "(II)I"⟩, 22)]
theorem lw_r30 : ∀ q ∈ lw_privs_30, lw_okq q := List.forall_mem_cons.mpr ⟨lw_p464, List.forall_mem_cons.mpr ⟨lw_p465, List.forall_mem_cons.mpr ⟨lw_p466, List.forall_mem_cons.mpr ⟨lw_p467, List.forall_mem_cons.mpr ⟨lw_p468, List.forall_mem_cons.mpr ⟨lw_p469, List.forall_mem_cons.mpr ⟨lw_p470, List.forall_mem_cons.mpr ⟨lw_p471, List.forall_mem_cons.mpr ⟨lw_p472, List.forall_mem_cons.mpr ⟨lw_p473, List.forall_mem_cons.mpr ⟨lw_p474, List.forall_mem_cons.mpr ⟨lw_p475, List.forall_mem_cons.mpr ⟨lw_p476, List.forall_mem_cons.mpr ⟨lw_p477, List.forall_mem_cons.mpr ⟨lw_p478, List.forall_mem_cons.mpr ⟨lw_p479, fun _ h => absurd h List.not_mem_nil⟩⟩⟩⟩⟩⟩⟩⟩⟩⟩⟩⟩⟩⟩⟩⟩
theorem lw_p480 : lw_okq (⟨"TimberHouseModel$Shop", "areUnlike", "(IIIJ)Z"⟩, 22) := ⟨⟨by decide +kernel, by decide +kernel⟩, List.mem_of_getElem? (i := 3649) (by decide +kernel), List.mem_of_getElem? (i := 5256) (by decide +kernel), List.mem_of_getElem? (i := 5257) (by decide +kernel)⟩
theorem lw_p481 : lw_okq (⟨"TimberHouseModel$Shop", "open", "(I)I"⟩, 22) := ⟨⟨by decide +kernel, by decide +kernel⟩, List.mem_of_getElem? (i := 3649) (by decide +kernel), List.mem_of_getElem? (i := 5295) (by decide +kernel), List.mem_of_getElem? (i := 5296) (by decide +kernel)⟩
theorem lw_p482 : lw_okq (⟨"TimberHouseModel$Shop", "isEntry", "(I)Z"⟩, 22) := ⟨⟨by decide +kernel, by decide +kernel⟩, List.mem_of_getElem? (i := 3649) (by decide +kernel), List.mem_of_getElem? (i := 5303) (by decide +kernel), List.mem_of_getElem? (i := 5304) (by decide +kernel)⟩
theorem lw_p483 : lw_okq (⟨"TimberHouseModel$Shop", "addRow", "(IIJ)V"⟩, 22) := ⟨⟨by decide +kernel, by decide +kernel⟩, List.mem_of_getElem? (i := 3649) (by decide +kernel), List.mem_of_getElem? (i := 5309) (by decide +kernel), List.mem_of_getElem? (i := 5310) (by decide +kernel)⟩
theorem lw_p484 : lw_okq (⟨"TimberHouseModel$Shop", "closeNow", "(I)V"⟩, 22) := ⟨⟨by decide +kernel, by decide +kernel⟩, List.mem_of_getElem? (i := 3649) (by decide +kernel), List.mem_of_getElem? (i := 5317) (by decide +kernel), List.mem_of_getElem? (i := 5318) (by decide +kernel)⟩
theorem lw_p485 : lw_okq (⟨"TimberHouseModel", "cutSheets", "()I"⟩, 16) := ⟨⟨by decide +kernel, by decide +kernel⟩, List.mem_of_getElem? (i := 2736) (by decide +kernel), List.mem_of_getElem? (i := 5346) (by decide +kernel), List.mem_of_getElem? (i := 5347) (by decide +kernel)⟩
theorem lw_p486 : lw_okq (⟨"TimberHouseModel", "addStep", "(III)I"⟩, 16) := ⟨⟨by decide +kernel, by decide +kernel⟩, List.mem_of_getElem? (i := 2736) (by decide +kernel), List.mem_of_getElem? (i := 5350) (by decide +kernel), List.mem_of_getElem? (i := 5351) (by decide +kernel)⟩
theorem lw_p487 : lw_okq (⟨"TimberHouseModel", "typePart", "(IIII)Z"⟩, 16) := ⟨⟨by decide +kernel, by decide +kernel⟩, List.mem_of_getElem? (i := 2736) (by decide +kernel), List.mem_of_getElem? (i := 5362) (by decide +kernel), List.mem_of_getElem? (i := 5363) (by decide +kernel)⟩
theorem lw_p488 : lw_okq (⟨"TimberHouseModel", "typeWord", "(Ljava/lang/String;)Z"⟩, 16) := ⟨⟨by decide +kernel, by decide +kernel⟩, List.mem_of_getElem? (i := 2736) (by decide +kernel), List.mem_of_getElem? (i := 5367) (by decide +kernel), List.mem_of_getElem? (i := 5368) (by decide +kernel)⟩
theorem lw_p489 : lw_okq (⟨"TimberHouseModel", "type", "(I)Z"⟩, 16) := ⟨⟨by decide +kernel, by decide +kernel⟩, List.mem_of_getElem? (i := 2736) (by decide +kernel), List.mem_of_getElem? (i := 5373) (by decide +kernel), List.mem_of_getElem? (i := 5374) (by decide +kernel)⟩
theorem lw_p490 : lw_okq (⟨"TimberHouseModel", "typeNumber", "(I)Z"⟩, 16) := ⟨⟨by decide +kernel, by decide +kernel⟩, List.mem_of_getElem? (i := 2736) (by decide +kernel), List.mem_of_getElem? (i := 5377) (by decide +kernel), List.mem_of_getElem? (i := 5378) (by decide +kernel)⟩
theorem lw_p491 : lw_okq (⟨"TimberHouseModel", "fact", "(IJII)I"⟩, 16) := ⟨⟨by decide +kernel, by decide +kernel⟩, List.mem_of_getElem? (i := 2736) (by decide +kernel), List.mem_of_getElem? (i := 5389) (by decide +kernel), List.mem_of_getElem? (i := 5390) (by decide +kernel)⟩
def lw_privs_31 : List (MethodName × Nat) := [(⟨"TimberHouseModel$Shop", "areUnlike", "(IIIJ)Z"⟩, 22), (⟨"TimberHouseModel$Shop", "open", "(I)I"⟩, 22), (⟨"TimberHouseModel$Shop", "isEntry", "(I)Z"⟩, 22), (⟨"TimberHouseModel$Shop", "addRow", "(IIJ)V"⟩, 22), (⟨"TimberHouseModel$Shop", "closeNow", "(I)V"⟩, 22), (⟨"TimberHouseModel", "cutSheets", "()I"⟩, 16), (⟨"TimberHouseModel", "addStep", "(III)I"⟩, 16), (⟨"TimberHouseModel", "typePart", "(IIII)Z"⟩, 16), (⟨"TimberHouseModel", "typeWord", "(Ljava/lang/String;)Z"⟩, 16), (⟨"TimberHouseModel", "type", "(I)Z"⟩, 16), (⟨"TimberHouseModel", "typeNumber", "(I)Z"⟩, 16), (⟨"TimberHouseModel", "fact", "(IJII)I"⟩, 16)]
theorem lw_r31 : ∀ q ∈ lw_privs_31, lw_okq q := List.forall_mem_cons.mpr ⟨lw_p480, List.forall_mem_cons.mpr ⟨lw_p481, List.forall_mem_cons.mpr ⟨lw_p482, List.forall_mem_cons.mpr ⟨lw_p483, List.forall_mem_cons.mpr ⟨lw_p484, List.forall_mem_cons.mpr ⟨lw_p485, List.forall_mem_cons.mpr ⟨lw_p486, List.forall_mem_cons.mpr ⟨lw_p487, List.forall_mem_cons.mpr ⟨lw_p488, List.forall_mem_cons.mpr ⟨lw_p489, List.forall_mem_cons.mpr ⟨lw_p490, List.forall_mem_cons.mpr ⟨lw_p491, fun _ h => absurd h List.not_mem_nil⟩⟩⟩⟩⟩⟩⟩⟩⟩⟩⟩⟩
def lw_privs : List (MethodName × Nat) := lw_privs_1 ++ (lw_privs_2 ++ (lw_privs_3 ++ (lw_privs_4 ++ (lw_privs_5 ++ (lw_privs_6 ++ (lw_privs_7 ++ (lw_privs_8 ++ (lw_privs_9 ++ (lw_privs_10 ++ (lw_privs_11 ++ (lw_privs_12 ++ (lw_privs_13 ++ (lw_privs_14 ++ (lw_privs_15 ++ (lw_privs_16 ++ (lw_privs_17 ++ (lw_privs_18 ++ (lw_privs_19 ++ (lw_privs_20 ++ (lw_privs_21 ++ (lw_privs_22 ++ (lw_privs_23 ++ (lw_privs_24 ++ (lw_privs_25 ++ (lw_privs_26 ++ (lw_privs_27 ++ (lw_privs_28 ++ (lw_privs_29 ++ (lw_privs_30 ++ (lw_privs_31))))))))))))))))))))))))))))))
def lw_tbl : List Cond := k2_sels lw_privs ++ tables_1
theorem lw_privs_ok : ∀ q ∈ lw_privs, lw_okq q := by
  show ∀ q ∈ lw_privs_1 ++ (lw_privs_2 ++ (lw_privs_3 ++ (lw_privs_4 ++ (lw_privs_5 ++ (lw_privs_6 ++ (lw_privs_7 ++ (lw_privs_8 ++ (lw_privs_9 ++ (lw_privs_10 ++ (lw_privs_11 ++ (lw_privs_12 ++ (lw_privs_13 ++ (lw_privs_14 ++ (lw_privs_15 ++ (lw_privs_16 ++ (lw_privs_17 ++ (lw_privs_18 ++ (lw_privs_19 ++ (lw_privs_20 ++ (lw_privs_21 ++ (lw_privs_22 ++ (lw_privs_23 ++ (lw_privs_24 ++ (lw_privs_25 ++ (lw_privs_26 ++ (lw_privs_27 ++ (lw_privs_28 ++ (lw_privs_29 ++ (lw_privs_30 ++ (lw_privs_31)))))))))))))))))))))))))))))), lw_okq q
  exact List.forall_mem_append.mpr ⟨lw_r1, List.forall_mem_append.mpr ⟨lw_r2, List.forall_mem_append.mpr ⟨lw_r3, List.forall_mem_append.mpr ⟨lw_r4, List.forall_mem_append.mpr ⟨lw_r5, List.forall_mem_append.mpr ⟨lw_r6, List.forall_mem_append.mpr ⟨lw_r7, List.forall_mem_append.mpr ⟨lw_r8, List.forall_mem_append.mpr ⟨lw_r9, List.forall_mem_append.mpr ⟨lw_r10, List.forall_mem_append.mpr ⟨lw_r11, List.forall_mem_append.mpr ⟨lw_r12, List.forall_mem_append.mpr ⟨lw_r13, List.forall_mem_append.mpr ⟨lw_r14, List.forall_mem_append.mpr ⟨lw_r15, List.forall_mem_append.mpr ⟨lw_r16, List.forall_mem_append.mpr ⟨lw_r17, List.forall_mem_append.mpr ⟨lw_r18, List.forall_mem_append.mpr ⟨lw_r19, List.forall_mem_append.mpr ⟨lw_r20, List.forall_mem_append.mpr ⟨lw_r21, List.forall_mem_append.mpr ⟨lw_r22, List.forall_mem_append.mpr ⟨lw_r23, List.forall_mem_append.mpr ⟨lw_r24, List.forall_mem_append.mpr ⟨lw_r25, List.forall_mem_append.mpr ⟨lw_r26, List.forall_mem_append.mpr ⟨lw_r27, List.forall_mem_append.mpr ⟨lw_r28, List.forall_mem_append.mpr ⟨lw_r29, List.forall_mem_append.mpr ⟨lw_r30, lw_r31⟩⟩⟩⟩⟩⟩⟩⟩⟩⟩⟩⟩⟩⟩⟩⟩⟩⟩⟩⟩⟩⟩⟩⟩⟩⟩⟩⟩⟩⟩
/-- the streams that the claim lets the run draw from -/
abbrev lw_cs : List Choice := [Jvm.Choice.named "NaN.bits"]
theorem lw_bits : nanBits ∈ lw_cs := by first | decide | exact List.mem_cons_self | simp [lw_cs, nanBits]
end
section
/-! THE WALKER: bytecode over intervals. A scalar is a number or a variable; a value: an int, a long, a cell by its number, else 0 null 1 a double made of an int 2 some reference 3 the double 8 4 some double. All that changes is a list of pairs, the newest first. -/
abbrev ab_S : Type := Int ⊕ Nat
abbrev ab_V : Type := (ab_S ⊕ ab_S) ⊕ (Nat ⊕ Nat)
abbrev ab_F : Type := Nat × ab_S × ab_S
abbrev ab_D : Type := Nat × ab_S × ab_S × Nat
/-- how many variables, what each may be, facts of two scalars, sums and the like that have a variable -/
abbrev ab_G : Type := Nat × List (Nat × (Int × Int)) × List ab_F × List ab_D
abbrev ab_L : Type := List (Nat × ab_V)
abbrev ab_A : Type := Option (ab_V × ab_L)
/-- an object: its class, its fields; a row: its type, its length, what it holds (none: forgotten) -/
abbrev ab_C : Type := (Nat × ab_L) ⊕ (Nat × Nat × ab_A)
/-- the heap: how many cells, the cells that are not the base's -/
abbrev ab_H : Type := Nat × List (Nat × ab_C)
/-- a row: pc, flag, class, number, three small ones, more -/
abbrev ab_E : Type := Nat × Nat × Nat × Int × Nat × Nat × List Nat
abbrev ab_K : Type := Nat → Nat → List ab_V → ab_L → ab_G → ab_H → Nat → Nat → Bool
abbrev ab_X : Type := Nat → List Nat → Bool → List ab_E → ab_L → List ab_V → ab_G → ab_H → Nat → Nat → ab_K → Bool
abbrev ab_M : Type := List ab_E × Nat × Nat × List (Nat × Nat × Nat × Nat)
noncomputable def ab_le : Int → Int → Bool
  | .ofNat a, .ofNat b => Nat.ble a b
  | .ofNat _, .negSucc _ => false
  | .negSucc _, .ofNat _ => true
  | .negSucc a, .negSucc b => Nat.ble b a
noncomputable def ab_eq : Int → Int → Bool
  | .ofNat a, .ofNat b => Nat.beq a b
  | .ofNat _, .negSucc _ => false
  | .negSucc _, .ofNat _ => false
  | .negSucc a, .negSucc b => Nat.beq a b
noncomputable def ab_min (a b : Int) : Int := bif ab_le a b then a else b
noncomputable def ab_max (a b : Int) : Int := bif ab_le a b then b else a
/-- the first of a number -/
noncomputable def ab_lk {α : Type} (l : List (Nat × α)) (i : Nat) : Option α := List.rec none (fun q _ r => bif Nat.beq q.1 i then some q.2 else r) l
noncomputable def ab_at {α : Type} (l : List α) (i : Nat) : Option α := List.rec (motive := fun _ => Nat → Option α) (fun _ => none) (fun a _ r i => Nat.casesOn i (some a) r) l i
noncomputable def ab_dr {α : Type} (i : Nat) (l : List α) : List α := Nat.rec (motive := fun _ => List α → List α) (fun l => l) (fun _ r l => List.casesOn l [] (fun _ t => r t)) i l
noncomputable def ab_all {α : Type} (f : α → Bool) (l : List α) : Bool := List.rec true (fun a _ r => bif f a then r else false) l
noncomputable def ab_seq : ab_S → ab_S → Bool
  | .inl a, .inl b => ab_eq a b
  | .inr a, .inr b => Nat.beq a b
  | _, _ => false
noncomputable def ab_ivI (G : ab_G) (i : Nat) : Int × Int := match ab_lk G.2.1 i with
  | some p => p
  | none => (1, 0)
noncomputable def ab_ivS (G : ab_G) : ab_S → Int × Int
  | .inl c => (c, c)
  | .inr i => ab_ivI G i
noncomputable def ab_nm (G : ab_G) : ab_S → ab_S
  | .inl c => .inl c
  | .inr i => match ab_ivI G i with
    | (p, q) => bif ab_eq p q then .inl p else .inr i
/-- kind 0: ints, else longs -/
noncomputable def ab_lo (k : Nat) : Int := bif Nat.beq k 0 then .negSucc 2147483647 else .negSucc 9223372036854775807
noncomputable def ab_hi (k : Nat) : Int := bif Nat.beq k 0 then .ofNat 2147483647 else .ofNat 9223372036854775807
noncomputable def ab_inR (k : Nat) (p q : Int) : Bool := bif ab_le (ab_lo k) p then ab_le q (ab_hi k) else false
noncomputable def ab_w (k : Nat) (z : Int) : Int := bif ab_inR k z z then z else (bif Nat.beq k 0 then Int.bmod z 4294967296 else Int.bmod z 18446744073709551616)
/-- a new variable between two numbers -/
noncomputable def ab_fr (G : ab_G) (p q : Int) (f : ab_S → ab_G → Bool) : Bool := bif ab_eq p q then f (.inl p) G else f (.inr G.1) (G.1 + 1, (G.1, (p, q)) :: G.2.1, G.2.2)
noncomputable def ab_find (op : Nat) (a b : ab_S) (l : List ab_D) : Option Nat := List.rec none (fun d _ r => bif (bif Nat.beq d.1 op then (bif ab_seq d.2.1 a then ab_seq d.2.2.1 b else false) else false) then some d.2.2.2 else r) l
noncomputable def ab_fd (G : ab_G) (op : Nat) (a b : ab_S) (p q : Int) (f : ab_S → ab_G → Bool) : Bool :=
  match ab_find op a b G.2.2.2 with
  | some r => f (ab_nm G (.inr r)) G
  | none => bif ab_eq p q then f (.inl p) G else f (.inr G.1) (G.1 + 1, (G.1, (p, q)) :: G.2.1, G.2.2.1, (op, a, b, G.1) :: G.2.2.2)
/-- the machine's own answers: 0 add 1 sub 2 mul 3 div 4 rem 5 and 6 or 7 xor 8 shl 9 shr 10 ushr -/
noncomputable def ab_op32 (op : Nat) (a b : Int32) : Int32 :=
  match op with
  | 0 => a + b | 1 => a - b | 2 => a * b | 3 => a / b | 4 => a - a / b * b | 5 => a &&& b | 6 => a ||| b | 7 => a ^^^ b
  | 8 => a <<< (b &&& 31) | 9 => a >>> (b &&& 31) | _ => (a.toUInt32 >>> (b.toUInt32 &&& Int32.toUInt32 31)).toInt32
noncomputable def ab_op64 (op : Nat) (a b : Int64) : Int64 :=
  match op with
  | 0 => a + b | 1 => a - b | 2 => a * b | 3 => a / b | 4 => a - a / b * b | 5 => a &&& b | 6 => a ||| b | 7 => a ^^^ b
  | 8 => a <<< (b &&& 63) | 9 => a >>> (b &&& 63) | _ => (a.toUInt64 >>> (b.toUInt64 &&& Int64.toUInt64 63)).toInt64
noncomputable def ab_opZ (k op : Nat) (a b : Int) : Int := bif Nat.beq k 0 then (ab_op32 op (Int32.ofInt a) (Int32.ofInt b)).toInt else (ab_op64 op (Int64.ofInt a) (Int64.ofInt b)).toInt
noncomputable def ab_co (k op : Nat) (a b : Int) : Int :=
  bif Nat.beq op 0 then ab_w k (a + b) else bif Nat.beq op 1 then ab_w k (a - b) else bif Nat.beq op 2 then ab_w k (a * b) else
  bif Nat.beq op 3 then ab_w k (Int.tdiv a b) else bif Nat.beq op 4 then Int.tmod a b else ab_opZ k op a b
noncomputable def ab_full (k : Nat) (G : ab_G) (f : ab_S → ab_G → Bool) : Bool := ab_fr G (ab_lo k) (ab_hi k) f
noncomputable def ab_mk (k : Nat) (G : ab_G) (op : Nat) (a b : ab_S) (p q : Int) (f : ab_S → ab_G → Bool) : Bool := bif ab_inR k p q then ab_fd G op a b p q f else ab_full k G f
noncomputable def ab_nw (k : Nat) (G : ab_G) (p q : Int) (f : ab_S → ab_G → Bool) : Bool := bif ab_inR k p q then ab_fr G p q f else ab_full k G f
noncomputable def ab_add (k : Nat) (G : ab_G) (a b : ab_S) (f : ab_S → ab_G → Bool) : Bool :=
  bif ab_seq b (.inl 0) then f a G else bif ab_seq a (.inl 0) then f b G else ab_mk k G 0 a b ((ab_ivS G a).1 + (ab_ivS G b).1) ((ab_ivS G a).2 + (ab_ivS G b).2) f
noncomputable def ab_sub (k : Nat) (G : ab_G) (a b : ab_S) (f : ab_S → ab_G → Bool) : Bool :=
  bif ab_seq b (.inl 0) then f a G else bif ab_seq a b then f (.inl 0) G else
    match b with
    | .inl c => ab_mk k G 0 a (.inl (-c)) ((ab_ivS G a).1 - c) ((ab_ivS G a).2 - c) f
    | .inr i => ab_mk k G 1 a (.inr i) ((ab_ivS G a).1 - (ab_ivI G i).2) ((ab_ivS G a).2 - (ab_ivI G i).1) f
/-- a number by a variable, the variable told first -/
noncomputable def ab_mulc (k : Nat) (G : ab_G) (i : Nat) (c : Int) (f : ab_S → ab_G → Bool) : Bool :=
  bif ab_eq c 1 then f (.inr i) G else bif ab_eq c 0 then f (.inl 0) G else
  bif ab_le 0 c then ab_mk k G 2 (.inr i) (.inl c) ((ab_ivI G i).1 * c) ((ab_ivI G i).2 * c) f else ab_mk k G 2 (.inr i) (.inl c) ((ab_ivI G i).2 * c) ((ab_ivI G i).1 * c) f
noncomputable def ab_mul (k : Nat) (G : ab_G) (a b : ab_S) (f : ab_S → ab_G → Bool) : Bool :=
  match a, b with
  | .inl c, .inr i => ab_mulc k G i c f
  | .inr i, .inl c => ab_mulc k G i c f
  | .inr i, .inr j => bif (bif ab_le 0 (ab_ivI G i).1 then ab_le 0 (ab_ivI G j).1 else false) then ab_mk k G 2 (.inr i) (.inr j) ((ab_ivI G i).1 * (ab_ivI G j).1) ((ab_ivI G i).2 * (ab_ivI G j).2) f else ab_full k G f
  | .inl _, .inl _ => false
noncomputable def ab_div (k : Nat) (G : ab_G) (a b : ab_S) (f : ab_S → ab_G → Bool) : Bool :=
  bif ab_le 1 (ab_ivS G b).1 then
    match b with
    | .inl c => bif ab_eq c 1 then f a G else ab_mk k G 3 a (.inl c) (Int.tdiv (ab_ivS G a).1 c) (Int.tdiv (ab_ivS G a).2 c) f
    | .inr i => ab_mk k G 3 a (.inr i) (ab_min (ab_ivS G a).1 0) (ab_max (ab_ivS G a).2 0) f
  else false
/-- the divisor is a rest by the other one -/
noncomputable def ab_ltd (l : List ab_D) (a : ab_S) (j : Nat) : Bool := List.rec false (fun d _ r => bif (bif Nat.beq d.1 4 then (bif ab_seq d.2.2.1 a then Nat.beq d.2.2.2 j else false) else false) then true else r) l
noncomputable def ab_rhi (G : ab_G) (a b : ab_S) : Int := match b with
  | .inl c => c - 1
  | .inr j => bif ab_ltd G.2.2.2 a j then ab_min ((ab_ivI G j).2 - 1) ((ab_ivS G a).2 / 2) else (ab_ivI G j).2 - 1
noncomputable def ab_rem (k : Nat) (G : ab_G) (a b : ab_S) (f : ab_S → ab_G → Bool) : Bool :=
  bif ab_le 1 (ab_ivS G b).1 then
    (bif ab_le 0 (ab_ivS G a).1 then ab_mk k G 4 a b 0 (ab_rhi G a b) f else ab_mk k G 4 a b (1 - (ab_ivS G b).2) ((ab_ivS G b).2 - 1) f)
  else false
noncomputable def ab_and (k : Nat) (G : ab_G) (a b : ab_S) (f : ab_S → ab_G → Bool) : Bool :=
  bif ab_le 0 (ab_ivS G b).1 then ab_nw k G 0 (ab_ivS G b).2 f else bif ab_le 0 (ab_ivS G a).1 then ab_nw k G 0 (ab_ivS G a).2 f else ab_full k G f
noncomputable def ab_xor (k : Nat) (G : ab_G) (a b : ab_S) (f : ab_S → ab_G → Bool) : Bool :=
  bif (bif ab_le 0 (ab_ivS G a).1 then ab_le 0 (ab_ivS G b).1 else false) then ab_nw k G 0 (ab_hi k) f else ab_full k G f
noncomputable def ab_shr (k : Nat) (G : ab_G) (a : ab_S) (f : ab_S → ab_G → Bool) : Bool :=
  bif ab_le 0 (ab_ivS G a).1 then ab_nw k G 0 (ab_ivS G a).2 f else ab_full k G f
noncomputable def ab_ar2 (k op : Nat) (G : ab_G) (a b : ab_S) (f : ab_S → ab_G → Bool) : Bool :=
  bif Nat.beq op 0 then ab_add k G a b f else bif Nat.beq op 1 then ab_sub k G a b f else bif Nat.beq op 2 then ab_mul k G a b f else
  bif Nat.beq op 3 then ab_div k G a b f else bif Nat.beq op 4 then ab_rem k G a b f else bif Nat.beq op 5 then ab_and k G a b f else
  bif Nat.beq op 7 then ab_xor k G a b f else bif Nat.beq op 9 then ab_shr k G a f else ab_full k G f
noncomputable def ab_ar (k op : Nat) (G : ab_G) (a0 b0 : ab_S) (f : ab_S → ab_G → Bool) : Bool :=
  match ab_nm G a0, ab_nm G b0 with
  | .inl x, .inl y => bif (bif (bif Nat.beq op 3 then true else Nat.beq op 4) then ab_eq y 0 else false) then false else f (.inl (ab_co k op x y)) G
  | .inl x, .inr j => ab_ar2 k op G (.inl x) (.inr j) f
  | .inr i, .inl y => ab_ar2 k op G (.inr i) (.inl y) f
  | .inr i, .inr j => ab_ar2 k op G (.inr i) (.inr j) f
/-- conditions: 0 eq 1 ne 2 lt 3 ge 4 gt 5 le -/
noncomputable def ab_ng (c : Nat) : Nat := bif Nat.beq c 0 then 1 else bif Nat.beq c 1 then 0 else bif Nat.beq c 2 then 3 else bif Nat.beq c 3 then 2 else bif Nat.beq c 4 then 5 else 4
noncomputable def ab_fl (c : Nat) : Nat := bif Nat.beq c 2 then 4 else bif Nat.beq c 4 then 2 else bif Nat.beq c 3 then 5 else bif Nat.beq c 5 then 3 else c
/-- c1 says c2 of the same two -/
noncomputable def ab_im (c1 c2 : Nat) : Bool :=
  bif Nat.beq c1 c2 then true else bif Nat.beq c1 0 then (bif Nat.beq c2 3 then true else Nat.beq c2 5) else bif Nat.beq c1 2 then (bif Nat.beq c2 5 then true else Nat.beq c2 1) else
  bif Nat.beq c1 4 then (bif Nat.beq c2 3 then true else Nat.beq c2 1) else false
noncomputable def ab_known (c : Nat) (a b : ab_S) (l : List ab_F) : Option Bool := List.rec none (fun d _ r =>
    bif (bif ab_seq d.2.1 a then ab_seq d.2.2 b else false) then (bif ab_im d.1 c then some true else bif ab_im d.1 (ab_ng c) then some false else r) else
    bif (bif ab_seq d.2.1 b then ab_seq d.2.2 a else false) then (bif ab_im (ab_fl d.1) c then some true else bif ab_im (ab_fl d.1) (ab_ng c) then some false else r) else r) l
noncomputable def ab_ct (G : ab_G) (a : ab_S) (p q : Int) : ab_G := match a with
  | .inl _ => G
  | .inr i => (G.1, (i, (p, q)) :: G.2.1, G.2.2)
/-- what a condition leaves: the two intervals cut, and for two variables the fact; an empty interval: nothing -/
noncomputable def ab_one (c : Nat) (a b : ab_S) (p1 q1 p2 q2 : Int) (G : ab_G) (f : ab_G → Bool) : Bool :=
  bif (bif ab_le p1 q1 then ab_le p2 q2 else false) then
    match a, b with
    | .inr i, .inr j => f (G.1, (i, (p1, q1)) :: (j, (p2, q2)) :: G.2.1, (c, .inr i, .inr j) :: G.2.2.1, G.2.2.2)
    | .inr i, .inl _ => f (G.1, (i, (p1, q1)) :: G.2.1, G.2.2)
    | .inl _, .inr j => f (G.1, (j, (p2, q2)) :: G.2.1, G.2.2)
    | .inl _, .inl _ => true
  else true
noncomputable def ab_side (c : Nat) (a b : ab_S) (p q : Int × Int) (G : ab_G) (f : ab_G → Bool) : Bool :=
  bif Nat.beq c 0 then ab_one 0 a b (ab_max p.1 q.1) (ab_min p.2 q.2) (ab_max p.1 q.1) (ab_min p.2 q.2) G f else
  bif Nat.beq c 2 then ab_one 2 a b p.1 (ab_min p.2 (q.2 - 1)) (ab_max q.1 (p.1 + 1)) q.2 G f else
  bif Nat.beq c 3 then ab_one 3 a b (ab_max p.1 q.1) p.2 q.1 (ab_min q.2 p.2) G f else
  bif Nat.beq c 4 then ab_one 4 a b (ab_max p.1 (q.1 + 1)) p.2 q.1 (ab_min q.2 (p.2 - 1)) G f else
  bif Nat.beq c 5 then ab_one 5 a b p.1 (ab_min p.2 q.2) (ab_max q.1 p.1) q.2 G f else
  match a, b with
  | .inr i, .inr j => f (G.1, G.2.1, (1, .inr i, .inr j) :: G.2.2.1, G.2.2.2)
  | a, b => bif ab_one 2 a b p.1 (ab_min p.2 (q.2 - 1)) (ab_max q.1 (p.1 + 1)) q.2 G f then ab_one 4 a b (ab_max p.1 (q.1 + 1)) p.2 q.1 (ab_min q.2 (p.2 - 1)) G f else false
noncomputable def ab_hold (c : Nat) (x y : Int) : Bool :=
  bif Nat.beq c 0 then ab_eq x y else bif Nat.beq c 1 then (bif ab_eq x y then false else true) else bif Nat.beq c 2 then (bif ab_le y x then false else true) else
  bif Nat.beq c 3 then ab_le y x else bif Nat.beq c 4 then (bif ab_le x y then false else true) else ab_le x y
noncomputable def ab_br2 (c : Nat) (a b : ab_S) (G : ab_G) (f : Bool → ab_G → Bool) : Bool :=
  bif ab_seq a b then f (ab_hold c 0 0) G else
    match ab_known c a b G.2.2.1 with
    | some t => f t G
    | none => bif ab_side c a b (ab_ivS G a) (ab_ivS G b) G (f true) then ab_side (ab_ng c) a b (ab_ivS G a) (ab_ivS G b) G (f false) else false
noncomputable def ab_br (c : Nat) (a0 b0 : ab_S) (G : ab_G) (f : Bool → ab_G → Bool) : Bool :=
  match ab_nm G a0, ab_nm G b0 with
  | .inl x, .inl y => f (ab_hold c x y) G
  | .inl x, .inr j => ab_br2 c (.inl x) (.inr j) G f
  | .inr i, .inl y => ab_br2 c (.inr i) (.inl y) G f
  | .inr i, .inr j => ab_br2 c (.inr i) (.inr j) G f
/-- all values from lo on one by one -/
noncomputable def ab_spl (f : Int → Bool) (lo : Int) (n : Nat) : Bool := Nat.rec true (fun j r => bif f (lo + .ofNat j) then r else false) n
noncomputable def ab_wide : ab_V → Bool
  | .inl (.inl _) => false
  | .inl (.inr _) => true
  | .inr (.inl _) => false
  | .inr (.inr t) => bif Nat.beq t 1 then true else bif Nat.beq t 3 then true else Nat.beq t 4
/-- 0 int 1 long 2 reference 4 double -/
noncomputable def ab_tag (t : Nat) : ab_V → Bool
  | .inl (.inl _) => Nat.beq t 0
  | .inl (.inr _) => Nat.beq t 1
  | .inr (.inl _) => Nat.beq t 2
  | .inr (.inr u) => bif Nat.beq t 2 then Nat.beq u 2 else bif Nat.beq t 4 then Nat.beq u 4 else false
noncomputable def ab_sto (i : Nat) (v : ab_V) (L : ab_L) : ab_L :=
  (i, v) :: List.rec [] (fun q _ r => bif (bif Nat.beq q.1 i then true else bif (bif Nat.beq (q.1 + 1) i then ab_wide q.2 else false) then true else bif ab_wide v then Nat.beq q.1 (i + 1) else false) then r else q :: r) L
noncomputable def ab_args (l : List ab_V) (i : Nat) : ab_L := List.rec (motive := fun _ => Nat → ab_L) (fun _ => []) (fun v _ r i => (i, v) :: r (bif ab_wide v then i + 2 else i + 1)) l i
/-- what a place of a type may hold: 0 int 1 long 2 boolean, else references -/
noncomputable def ab_fit (G : ab_G) (ty : Nat) : ab_V → Bool
  | .inl (.inl s) => bif Nat.beq ty 0 then true else bif Nat.beq ty 2 then (bif ab_le 0 (ab_ivS G s).1 then ab_le (ab_ivS G s).2 1 else false) else false
  | .inl (.inr _) => Nat.beq ty 1
  | .inr (.inl _) => Nat.ble 3 ty
  | .inr (.inr t) => bif Nat.ble 3 ty then Nat.beq t 0 else false
noncomputable def ab_def (ty : Nat) : ab_V := bif Nat.beq ty 1 then .inl (.inr (.inl 0)) else bif Nat.ble 3 ty then .inr (.inr 0) else .inl (.inl (.inl 0))
noncomputable def ab_any (G : ab_G) (ty : Nat) (f : ab_V → ab_G → Bool) : Bool :=
  bif Nat.beq ty 0 then ab_fr G (ab_lo 0) (ab_hi 0) (fun s => f (.inl (.inl s))) else
  bif Nat.beq ty 1 then ab_fr G (ab_lo 1) (ab_hi 1) (fun s => f (.inl (.inr s))) else
  bif Nat.beq ty 2 then ab_fr G 0 1 (fun s => f (.inl (.inl s))) else false
noncomputable def ab_nmV (G : ab_G) : ab_V → ab_V
  | .inl (.inl s) => .inl (.inl (ab_nm G s))
  | .inl (.inr s) => .inl (.inr (ab_nm G s))
  | .inr v => .inr v
noncomputable def ab_veq : ab_V → ab_V → Bool
  | .inl (.inl a), .inl (.inl b) => ab_seq a b
  | .inl (.inr a), .inl (.inr b) => ab_seq a b
  | .inr (.inl a), .inr (.inl b) => Nat.beq a b
  | .inr (.inr a), .inr (.inr b) => bif Nat.beq a 0 then Nat.beq b 0 else false
  | _, _ => false
noncomputable def ab_aupd (G : ab_G) (c : ab_A) (i : ab_S) (v : ab_V) : ab_A :=
  match c with
  | none => none
  | some (d, l) => match ab_nm G i with
    | .inl z => (match l with
      | [] => bif ab_veq (ab_nmV G v) d then some (d, []) else some (d, [(z.toNat, ab_nmV G v)])
      | _ :: _ => some (d, (z.toNat, ab_nmV G v) :: l))
    | .inr _ => match l with
      | [] => bif ab_veq (ab_nmV G v) d then some (d, []) else none
      | _ :: _ => none
noncomputable def ab_han (pc e : Nat) (l : List (Nat × Nat × Nat × Nat)) : Option Nat := List.rec none (fun q _ r => bif (bif Nat.ble q.1 pc then (bif Nat.ble (pc + 1) q.2.1 then Nat.beq q.2.2.1 e else false) else false) then some q.2.2.2 else r) l
section AB
variable (BS : Nat → Option ab_C)
noncomputable def ab_cl (h : ab_H) (c : Nat) : Option ab_C := match ab_lk h.2 c with
  | some x => some x
  | none => BS c
noncomputable def ab_put (h : ab_H) (c : Nat) (x : ab_C) : ab_H := (h.1, (c, x) :: h.2)
noncomputable def ab_new (h : ab_H) (x : ab_C) : ab_H := (h.1 + 1, (h.1, x) :: h.2)
/-- the rows that touch locals, stack and numbers alone -/
noncomputable def ab_i3 (tg i : Nat) (L : ab_L) (go : ab_V → Bool) : Bool := match ab_lk L i with
  | some v => bif ab_tag tg v then go v else false
  | none => false
noncomputable def ab_i5 (i : Nat) (A : Int) (L : ab_L) (G : ab_G) (go : ab_V → ab_G → Bool) : Bool := match ab_lk L i with
  | some (.inl (.inl s)) => ab_ar 0 0 G s (.inl A) (fun s' => go (.inl (.inl s')))
  | _ => false
noncomputable def ab_i6 (kd op : Nat) (S : List ab_V) (G : ab_G) (go : List ab_V → ab_G → Bool) : Bool := match S with
  | .inl (.inl b) :: .inl (.inl a) :: S' => bif Nat.beq kd 0 then ab_ar 0 op G a b (fun s => go (.inl (.inl s) :: S')) else false
  | .inl (.inr b) :: .inl (.inr a) :: S' => bif (bif Nat.beq kd 1 then Nat.ble op 7 else false) then ab_ar 1 op G a b (fun s => go (.inl (.inr s) :: S')) else false
  | _ => false
noncomputable def ab_i7 (S : List ab_V) (G : ab_G) (go : List ab_V → ab_G → Bool) (kd : Nat) : Bool := match S with
  | .inl (.inl a) :: S' => bif Nat.beq kd 0 then ab_ar 0 1 G (.inl 0) a (fun s => go (.inl (.inl s) :: S')) else false
  | .inl (.inr a) :: S' => bif Nat.beq kd 1 then ab_ar 1 1 G (.inl 0) a (fun s => go (.inl (.inr s) :: S')) else false
  | _ => false
noncomputable def ab_i8 (S : List ab_V) (go : List ab_V → Bool) : Bool := match S with
  | .inl (.inl a) :: S' => go (.inl (.inr a) :: S')
  | _ => false
noncomputable def ab_i9 (S : List ab_V) (G : ab_G) (go : List ab_V → ab_G → Bool) : Bool := match S with
  | .inl (.inr a) :: S' => (match ab_nm G a with
    | .inl z => go (.inl (.inl (.inl (ab_w 0 z))) :: S') G
    | .inr i => bif ab_inR 0 (ab_ivI G i).1 (ab_ivI G i).2 then go (.inl (.inl (.inr i)) :: S') G else ab_full 0 G (fun s => go (.inl (.inl s) :: S')))
  | _ => false
noncomputable def ab_i10 (S : List ab_V) (go : List ab_V → Bool) : Bool := match S with
  | .inl (.inl _) :: S' => go (.inr (.inr 1) :: S')
  | _ => false
noncomputable def ab_i11 (S : List ab_V) (go : List ab_V → Bool) : Bool := match S with
  | .inr (.inr t) :: .inr (.inr u) :: S' => bif (bif Nat.beq t 3 then Nat.beq u 1 else false) then go (.inr (.inr 4) :: S') else false
  | _ => false
noncomputable def ab_i12 (S : List ab_V) (go : List ab_V → Bool) : Bool := match S with
  | v :: S' => bif ab_wide v then false else go (v :: v :: S')
  | [] => false
noncomputable def ab_i13 (S : List ab_V) (go : List ab_V → Bool) : Bool := match S with
  | v :: S' => bif ab_wide v then go (v :: v :: S') else (match S' with
    | u :: S2 => bif ab_wide u then false else go (v :: u :: v :: u :: S2)
    | [] => false)
  | [] => false
noncomputable def ab_i14 (S : List ab_V) (go : List ab_V → Bool) : Bool := match S with
  | v :: S' => bif ab_wide v then false else go S'
  | [] => false
noncomputable def ab_i15 (S : List ab_V) (go : List ab_V → Bool) : Bool := match S with
  | v :: S' => bif ab_wide v then go S' else false
  | [] => false
noncomputable def ab_i21 (c : Nat) (S : List ab_V) (G : ab_G) (go : List ab_V → Bool → ab_G → Bool) : Bool := match S with
  | .inl (.inl a) :: S' => ab_br c a (.inl 0) G (go S')
  | _ => false
noncomputable def ab_i22 (c : Nat) (S : List ab_V) (G : ab_G) (go : List ab_V → Bool → ab_G → Bool) : Bool := match S with
  | .inl (.inl b) :: .inl (.inl a) :: S' => ab_br c a b G (go S')
  | _ => false
noncomputable def ab_i23 (c : Nat) (S : List ab_V) (G : ab_G) (go : List ab_V → Bool → ab_G → Bool) : Bool := match S with
  | .inl (.inr b) :: .inl (.inr a) :: S' => ab_br c a b G (go S')
  | _ => false
/-- a table's place for a number -/
noncomputable def ab_tb (A : Int) (d : Nat) (ts : List Nat) (z : Int) : Nat := bif ab_le A z then (match ab_at ts (z - A).toNat with
    | some t => t
    | none => d) else d
noncomputable def ab_i24 (A : Int) (d : Nat) (ts : List Nat) (S : List ab_V) (G : ab_G) (go : List ab_V → Nat → ab_G → Bool) : Bool := match S with
  | .inl (.inl a) :: S' => (match ab_nm G a with
    | .inl z => go S' (ab_tb A d ts z) G
    | .inr i =>
      bif (bif ab_le A (ab_ivI G i).1 then true else go S' d (ab_ct G (.inr i) (ab_ivI G i).1 (ab_min (ab_ivI G i).2 (A - 1)))) then
        (bif (bif ab_le (ab_ivI G i).2 (A + .ofNat ts.length - 1) then true else go S' d (ab_ct G (.inr i) (ab_max (ab_ivI G i).1 (A + .ofNat ts.length)) (ab_ivI G i).2)) then
          ab_spl (fun z => go S' (ab_tb A d ts z) (ab_ct G (.inr i) z z)) (ab_max (ab_ivI G i).1 A) (ab_min (ab_ivI G i).2 (A + .ofNat ts.length - 1) + 1 - ab_max (ab_ivI G i).1 A).toNat else false) else false)
  | _ => false
/-- a table by keys: the one number that is told -/
noncomputable def ab_i25 (A : Int) (S : List ab_V) (G : ab_G) (go : List ab_V → Bool) : Bool := match S with
  | .inl (.inl a) :: S' => (match ab_nm G a with
    | .inl z => bif ab_eq z A then go S' else false
    | .inr _ => false)
  | _ => false
/-- the rows that touch the heap -/
noncomputable def ab_i30 (ci f ty : Nat) (S : List ab_V) (h : ab_H) (go : List ab_V → Bool) : Bool := match S with
  | .inr (.inl c) :: S' => (match ab_cl BS h c with
    | some (.inl (cj, fs)) => bif Nat.beq ci cj then (match ab_lk fs f with
      | some v => go (v :: S')
      | none => go (ab_def ty :: S')) else false
    | _ => false)
  | _ => false
noncomputable def ab_i31 (ci f ty : Nat) (S : List ab_V) (G : ab_G) (h : ab_H) (go : List ab_V → ab_H → Bool) : Bool := match S with
  | v :: .inr (.inl c) :: S' => (match ab_cl BS h c with
    | some (.inl (cj, fs)) => bif (bif Nat.beq c 0 then false else bif Nat.beq ci cj then ab_fit G ty v else false) then go S' (ab_put h c (.inl (cj, (f, ab_nmV G v) :: fs))) else false
    | _ => false)
  | _ => false
noncomputable def ab_i34 (ty : Nat) (S : List ab_V) (G : ab_G) (h : ab_H) (go : List ab_V → ab_H → Nat → Bool) : Bool := match S with
  | .inl (.inl a) :: S' => (match ab_nm G a with
    | .inl (.ofNat n) => bif Nat.ble n 1000000 then go (.inr (.inl h.1) :: S') (ab_new h (.inr (ty, n, some (ab_def ty, [])))) n else false
    | _ => false)
  | _ => false
/-- n rows of a type and a length, behind one another -/
noncomputable def ab_many (ty b : Nat) (h : ab_H) (n : Nat) : ab_H := Nat.rec h (fun _ r => ab_new r (.inr (ty, b, some (ab_def ty, [])))) n
noncomputable def ab_i35 (ty : Nat) (S : List ab_V) (h : ab_H) (go : List ab_V → ab_H → Nat → Nat → Bool) : Bool := match S with
  | .inl (.inl (.inl (.ofNat b))) :: .inl (.inl (.inl (.ofNat a))) :: S' =>
    bif (bif Nat.ble a 100 then Nat.ble b 10000 else false) then
      go (.inr (.inl h.1) :: S') (ab_many (ty - 3) b (ab_new h (.inr (ty, a, some (.inr (.inr 0), (List.range a).map (fun i => (i, .inr (.inl (h.1 + 1 + i)))))))) a) (1 + a) (a + a * b)
    else false
  | _ => false
noncomputable def ab_i37 (S : List ab_V) (h : ab_H) (go : List ab_V → Bool) : Bool := match S with
  | .inr (.inl c) :: S' => (match ab_cl BS h c with
    | some (.inr (ty, n, _)) => bif Nat.beq ty 9 then false else go (.inl (.inl (.inl (.ofNat n))) :: S')
    | _ => false)
  | _ => false
noncomputable def ab_in (n : Nat) (p q : Int) : Bool := bif ab_le 0 p then ab_le (q + 1) (.ofNat n) else false
noncomputable def ab_i38 (ty : Nat) (S : List ab_V) (G : ab_G) (h : ab_H) (go : List ab_V → ab_G → Bool) (re : ab_G → Bool) : Bool := match S with
  | .inl (.inl i) :: .inr (.inl c) :: S' => (match ab_cl BS h c with
    | some (.inr (tz, n, ct)) =>
      bif (bif (bif Nat.beq ty 3 then (bif Nat.ble 3 tz then Nat.ble tz 4 else false) else Nat.beq ty tz) then ab_in n (ab_ivS G i).1 (ab_ivS G i).2 else false) then
        (match ct with
        | none => ab_any G tz (fun v => go (v :: S'))
        | some (d, l) => match ab_nm G i with
          | .inl z => (match ab_lk l z.toNat with
            | some v => go (v :: S') G
            | none => go (d :: S') G)
          | .inr j => match l with
            | [] => go (d :: S') G
            | _ :: _ => bif Nat.ble 3 tz then (bif ab_le ((ab_ivI G j).2 - (ab_ivI G j).1) 64 then ab_spl (fun z => re (ab_ct G (.inr j) z z)) (ab_ivI G j).1 ((ab_ivI G j).2 + 1 - (ab_ivI G j).1).toNat else false)
              else ab_any G tz (fun v => go (v :: S')))
      else false
    | _ => false)
  | _ => false
noncomputable def ab_i39 (ty : Nat) (S : List ab_V) (G : ab_G) (h : ab_H) (go : List ab_V → ab_H → Bool) : Bool := match S with
  | v :: .inl (.inl i) :: .inr (.inl c) :: S' => (match ab_cl BS h c with
    | some (.inr (tz, n, ct)) =>
      bif (bif (bif Nat.beq ty tz then (bif Nat.beq c 0 then false else bif Nat.ble 3 ty then false else ab_fit G ty v) else false) then ab_in n (ab_ivS G i).1 (ab_ivS G i).2 else false) then go S' (ab_put h c (.inr (tz, n, ab_aupd G ct i v))) else false
    | _ => false)
  | _ => false
noncomputable def ab_i42 (ty : Nat) (S : List ab_V) (G : ab_G) (h : ab_H) (go : List ab_V → ab_H → Bool) : Bool := match S with
  | v :: .inr (.inl c) :: S' => (match ab_cl BS h c with
    | some (.inr (tz, n, _)) => bif (bif Nat.beq ty tz then (bif Nat.beq c 0 then false else bif Nat.ble 2 ty then false else bif Nat.ble S'.length 4 then ab_fit G ty v else false) else false) then go S' (ab_put h c (.inr (tz, n, some (ab_nmV G v, [])))) else false
    | _ => false)
  | _ => false
/-- a run of numbers from one row to another: the other is forgotten -/
noncomputable def ab_i43 (S : List ab_V) (G : ab_G) (h : ab_H) (go : List ab_V → ab_H → Bool) : Bool := match S with
  | .inl (.inl m) :: .inl (.inl j) :: .inr (.inl d) :: .inl (.inl i) :: .inr (.inl c) :: S' => (match ab_cl BS h c, ab_cl BS h d with
    | some (.inr (tz, n, _)), some (.inr (tw, n2, _)) =>
      bif (bif (bif Nat.beq tz tw then (bif Nat.ble tz 1 then (bif Nat.beq d 0 then false else bif Nat.beq c d then false else Nat.ble S'.length 20) else false) else false) then
        (bif ab_le 0 (ab_ivS G m).1 then (bif ab_le 0 (ab_ivS G i).1 then (bif ab_le 0 (ab_ivS G j).1 then (bif ab_le ((ab_ivS G i).2 + (ab_ivS G m).2) (.ofNat n) then ab_le ((ab_ivS G j).2 + (ab_ivS G m).2) (.ofNat n2) else false) else false) else false) else false)
      else false) then go S' (ab_put h d (.inr (tw, n2, none))) else false
    | _, _ => false)
  | _ => false
noncomputable def ab_i44 (S : List ab_V) (h : ab_H) (go : List ab_V → ab_H → Bool) : Bool := match S with
  | .inr (.inl v) :: .inl (.inl (.inl (.ofNat i))) :: .inr (.inl c) :: S' => (match ab_cl BS h c, ab_cl BS h v with
    | some (.inr (tz, n, some (d, l))), some (.inr (tv, _, _)) => bif (bif (bif Nat.beq tz 4 then Nat.beq tv 1 else false) then (bif Nat.beq c 0 then false else Nat.ble (i + 1) n) else false) then go S' (ab_put h c (.inr (tz, n, some (d, (i, .inr (.inl v)) :: l)))) else false
    | _, _ => false)
  | _ => false
noncomputable def ab_rst (S : List ab_V) (n : Nat) (f : List ab_V → List ab_V → Bool) : Bool := Nat.rec (motive := fun _ => List ab_V → List ab_V → Bool) (fun a S => f a S) (fun _ r a S => List.casesOn S false (fun v T => r (v :: a) T)) n [] S
/-- how many slots arguments take -/
noncomputable def ab_wd (l : List ab_V) : Nat := List.rec 0 (fun v _ r => bif ab_wide v then r + 2 else r + 1) l
/-- a receiver of a class (0: nothing is asked, else its number and one) -/
noncomputable def ab_rcv (vc : Nat) (as : List ab_V) (h : ab_H) : Bool := bif Nat.beq vc 0 then true else match as with
  | .inr (.inl c) :: _ => (match ab_cl BS h c with
    | some (.inl (cj, _)) => Nat.beq (cj + 1) vc
    | _ => false)
  | _ => false
/-- a method's room -/
noncomputable def ab_rm (P : Nat → ab_M) (y cn sn : Nat) : Bool := bif Nat.ble cn (P y).2.1 then Nat.ble sn (P y).2.2.1 else false
noncomputable def ab_call (P : Nat → ab_M) (ih : ab_X) (y : Nat) (cuts : List Nat) (pc y2 n vc mx : Nat) (rest : List ab_E) (L : ab_L) (S : List ab_V) (G : ab_G) (h : ab_H) (cn sn : Nat) (k : ab_K) : Bool :=
  ab_rst S n (fun as S' => bif (bif (bif (bif Nat.ble S'.length 20 then Nat.ble (ab_wd as) mx else false) then ab_rcv BS vc as h else false) then ab_rm P y (cn + (P y2).2.1) (sn + (P y2).2.2.1) else false) then
    ih y2 [] true (P y2).1 (ab_args as 0) [] G h 0 0 (fun kd e S2 L2 G2 h2 cn2 sn2 =>
      bif ab_rm P y2 cn2 sn2 then
        (bif Nat.beq kd 0 then ih y cuts false rest L (S2 ++ S') G2 h2 (cn + (P y2).2.1) (sn + (P y2).2.2.1) k else
        bif Nat.beq kd 1 then (match (P y).2.2.2 with
          | [] => k 1 e [] L G2 h2 (cn + (P y2).2.1) (sn + (P y2).2.2.1)
          | _ :: _ => match ab_han pc e (P y).2.2.2 with
            | some g => ih y cuts false (ab_dr g (P y).1) L [.inr (.inr 2)] G2 h2 (cn + (P y2).2.1) (sn + (P y2).2.2.1) k
            | none => false) else false)
      else false) else false)
noncomputable def ab_b1 (P : Nat → ab_M) (ih : ab_X) (y : Nat) (cuts : List Nat) (pos : List ab_E) (pc cl : Nat) (A : Int) (x1 x2 : Nat) (X : List Nat) (rest : List ab_E) (L : ab_L) (S : List ab_V) (G : ab_G) (h : ab_H) (cn sn : Nat) (k : ab_K) : Bool :=
  bif Nat.ble cl 5 then
    (bif Nat.beq cl 3 then ab_i3 x1 x2 L (fun v => ih y cuts false rest L (v :: S) G h cn sn k) else
    bif Nat.beq cl 0 then ih y cuts false rest L (.inl (.inl (.inl A)) :: S) G h cn sn k else
    bif Nat.beq cl 4 then (match S with
      | v :: S' => bif ab_tag x1 v then ih y cuts false rest (ab_sto x2 v L) S' G h cn sn k else false
      | [] => false) else
    bif Nat.beq cl 1 then ih y cuts false rest L (.inl (.inr (.inl A)) :: S) G h cn sn k else
    bif Nat.beq cl 5 then ab_i5 x1 A L G (fun v G' => ih y cuts false rest (ab_sto x1 v L) S G' h cn sn k) else
    ih y cuts false rest L (.inr (.inr 3) :: S) G h cn sn k)
  else bif Nat.ble cl 15 then
    (bif Nat.beq cl 6 then ab_i6 x1 x2 S G (fun S' G' => ih y cuts false rest L S' G' h cn sn k) else
    bif Nat.beq cl 7 then ab_i7 S G (fun S' G' => ih y cuts false rest L S' G' h cn sn k) x1 else
    bif Nat.beq cl 8 then ab_i8 S (fun S' => ih y cuts false rest L S' G h cn sn k) else
    bif Nat.beq cl 9 then ab_i9 S G (fun S' G' => ih y cuts false rest L S' G' h cn sn k) else
    bif Nat.beq cl 10 then ab_i10 S (fun S' => ih y cuts false rest L S' G h cn sn k) else
    bif Nat.beq cl 11 then ab_i11 S (fun S' => ih y cuts false rest L S' G h cn sn k) else
    bif Nat.beq cl 12 then ab_i12 S (fun S' => ih y cuts false rest L S' G h cn sn k) else
    bif Nat.beq cl 13 then ab_i13 S (fun S' => ih y cuts false rest L S' G h cn sn k) else
    bif Nat.beq cl 14 then ab_i14 S (fun S' => ih y cuts false rest L S' G h cn sn k) else
    bif Nat.beq cl 15 then ab_i15 S (fun S' => ih y cuts false rest L S' G h cn sn k) else false)
  else
    bif Nat.beq cl 20 then ih y cuts false (ab_dr x1 (P y).1) L S G h cn sn k else
    bif Nat.beq cl 21 then ab_i21 x1 S G (fun S' t G' => ih y cuts false (bif t then ab_dr x2 (P y).1 else rest) L S' G' h cn sn k) else
    bif Nat.beq cl 22 then ab_i22 x1 S G (fun S' t G' => ih y cuts false (bif t then ab_dr x2 (P y).1 else rest) L S' G' h cn sn k) else
    bif Nat.beq cl 23 then ab_i23 x1 S G (fun S' t G' => ih y cuts false (bif t then ab_dr x2 (P y).1 else ab_dr 1 rest) L S' G' h cn sn k) else
    bif Nat.beq cl 24 then ab_i24 A x1 X S G (fun S' t G' => ih y cuts false (ab_dr t (P y).1) L S' G' h cn sn k) else
    bif Nat.beq cl 25 then ab_i25 A S G (fun S' => ih y cuts false (ab_dr x1 (P y).1) L S' G h cn sn k) else false
noncomputable def ab_b2 (P : Nat → ab_M) (NF : Nat → Nat) (ih : ab_X) (y : Nat) (cuts : List Nat) (pos : List ab_E) (pc cl : Nat) (A : Int) (x1 x2 : Nat) (X : List Nat) (rest : List ab_E) (L : ab_L) (S : List ab_V) (G : ab_G) (h : ab_H) (cn sn : Nat) (k : ab_K) : Bool :=
  bif Nat.ble cl 34 then
    (bif Nat.beq cl 30 then ab_i30 BS x1 x2 A.toNat S h (fun S' => ih y cuts false rest L S' G h cn sn k) else
    bif Nat.beq cl 31 then ab_i31 BS x1 x2 A.toNat S G h (fun S' h' => ih y cuts false rest L S' G h' cn sn k) else
    bif Nat.beq cl 32 then (bif ab_rm P y (cn + 1) (sn + NF x1) then ih y cuts false rest L (.inr (.inl h.1) :: S) G (ab_new h (.inl (x1, []))) (cn + 1) (sn + NF x1) k else false) else
    bif Nat.beq cl 33 then (match (P y).2.2.2 with
      | [] => bif (bif ab_rm P y (cn + 1) (sn + 6) then Nat.ble S.length 20 else false) then k 1 x1 [] L G (ab_new h (.inr (9, 0, none))) (cn + 1) (sn + 6) else false
      | _ :: _ => false) else
    bif Nat.beq cl 34 then ab_i34 x1 S G h (fun S' h' n => bif ab_rm P y (cn + 1) (sn + n) then ih y cuts false rest L S' G h' (cn + 1) (sn + n) k else false) else false)
  else bif Nat.ble cl 39 then
    (bif Nat.beq cl 38 then ab_i38 BS x1 S G h (fun S' G' => ih y cuts false rest L S' G' h cn sn k) (fun G' => ih y cuts true pos L S G' h cn sn k) else
    bif Nat.beq cl 39 then ab_i39 BS x1 S G h (fun S' h' => ih y cuts false rest L S' G h' cn sn k) else
    bif Nat.beq cl 35 then ab_i35 x1 S h (fun S' h' a b => bif ab_rm P y (cn + a) (sn + b) then ih y cuts false rest L S' G h' (cn + a) (sn + b) k else false) else
    bif Nat.beq cl 36 then ab_i34 4 S G h (fun S' h' n => bif ab_rm P y (cn + 1) (sn + n) then ih y cuts false rest L S' G h' (cn + 1) (sn + n) k else false) else
    bif Nat.beq cl 37 then ab_i37 BS S h (fun S' => ih y cuts false rest L S' G h cn sn k) else false)
  else
    bif Nat.beq cl 40 then ab_call BS P ih y cuts pc x1 x2 A.toNat (match X with
      | [] => 0
      | mx :: _ => mx) rest L S G h cn sn k else
    bif Nat.beq cl 51 then (match S with
      | [v] => bif ab_tag x1 v then k 0 pc [ab_nmV G v] L G h cn sn else false
      | _ => false) else
    bif Nat.beq cl 52 then (match S with
      | [v] => bif ab_fit G 2 v then k 0 pc [ab_nmV G v] L G h cn sn else false
      | _ => false) else
    bif Nat.beq cl 50 then (match S with
      | [] => k 0 pc [] L G h cn sn
      | _ :: _ => false) else
    bif Nat.beq cl 41 then (match S with
      | .inr (.inl _) :: S' => bif Nat.ble S'.length 20 then ih y cuts false rest L S' G h cn sn k else false
      | _ => false) else
    bif Nat.beq cl 42 then ab_i42 BS x1 S G h (fun S' h' => bif ab_rm P y cn sn then ih y cuts false rest L S' G h' cn sn k else false) else
    bif Nat.beq cl 43 then ab_i43 BS S G h (fun S' h' => ih y cuts false rest L S' G h' cn sn k) else
    bif Nat.beq cl 44 then ab_i44 BS S h (fun S' h' => ih y cuts false rest L S' G h' cn sn k) else false
noncomputable def ab_step (P : Nat → ab_M) (NF : Nat → Nat) (ih : ab_X) (y : Nat) (cuts : List Nat) (pos : List ab_E) (pc cl : Nat) (A : Int) (x1 x2 : Nat) (X : List Nat) (rest : List ab_E) (L : ab_L) (S : List ab_V) (G : ab_G) (h : ab_H) (cn sn : Nat) (k : ab_K) : Bool :=
  bif Nat.ble cl 29 then ab_b1 P ih y cuts pos pc cl A x1 x2 X rest L S G h cn sn k else ab_b2 BS P NF ih y cuts pos pc cl A x1 x2 X rest L S G h cn sn k
/-! A LOOP, by a hint: which locals may be what, which rows and fields are forgotten, which locals are dropped, which local moves, and whether up. The body is walked once from what is so told; where it comes back, it must be an instance of it, the local farther. -/
/-- locals with their bounds (0: the number; 1, 2: the least, greatest that a local may be at the entry, and the number more); rows forgotten; fields forgotten; locals dropped; the local that moves, 0 down 1 up; where the loop is left: pc, place -/
noncomputable def ab_bd (L : ab_L) (G : ab_G) (q : Nat × Nat × Int) : Int :=
  bif Nat.beq q.1 0 then q.2.2 else match ab_lk L q.2.1 with
    | some (.inl (.inl s)) => bif Nat.beq q.1 1 then (ab_ivS G s).1 + q.2.2 else (ab_ivS G s).2 + q.2.2
    | _ => 0
abbrev ab_B : Type := List (Nat × (Nat × Nat × Int) × (Nat × Nat × Int)) × List Nat × List (Nat × Nat × Nat × Int × Int) × List Nat × Nat × Nat × List (Nat × Nat)
/-- a new variable for a value of the same kind -/
noncomputable def ab_kn (i : Nat) : ab_V → ab_V
  | .inl (.inl _) => .inl (.inl (.inr i))
  | .inl (.inr _) => .inl (.inr (.inr i))
  | .inr v => .inr v
noncomputable def ab_gl (L0 : ab_L) (G0 : ab_G) (bs : List (Nat × (Nat × Nat × Int) × (Nat × Nat × Int))) (f : ab_L → ab_G → Bool) : ab_L → ab_G → Bool :=
  List.rec (fun L G => f L G) (fun b _ r L G => match ab_lk L b.1 with
    | some v => r (ab_sto b.1 (ab_kn G.1 v) L) (G.1 + 1, (G.1, (ab_bd L0 G0 b.2.1, ab_bd L0 G0 b.2.2)) :: G.2.1, G.2.2)
    | none => r L G) bs
noncomputable def ab_gc (h : ab_H) (cs : List Nat) : ab_H := List.rec h (fun c _ r => match ab_cl BS h c with
    | some (.inr (ty, n, _)) => ab_put r c (.inr (ty, n, none))
    | _ => r) cs
noncomputable def ab_gf (fs : List (Nat × Nat × Nat × Int × Int)) (f : ab_H → ab_G → Bool) : ab_H → ab_G → Bool :=
  List.rec (fun h G => f h G) (fun b _ r h G => match ab_cl BS h b.1 with
    | some (.inl (ci, fs)) => r (ab_put h b.1 (.inl (ci, (b.2.1, ab_kn G.1 (ab_def b.2.2.1)) :: fs))) (G.1 + 1, (G.1, (b.2.2.2.1, b.2.2.2.2)) :: G.2.1, G.2.2)
    | _ => r h G) fs
noncomputable def ab_gd (ds : List Nat) (L : ab_L) : ab_L := List.rec [] (fun q _ r => bif ds.elem q.1 then r else q :: r) L
/-- what the pattern's free variables (from n on) stand for: by the locals, by the fields forgotten -/
noncomputable def ab_bv (n N : Nat) (G : ab_G) (v w : ab_V) (r : List (Nat × ab_S)) : List (Nat × ab_S) := match v, w with
  | .inl (.inl (.inr i)), .inl (.inl s) => bif (bif Nat.ble n i then Nat.ble (i + 1) N else false) then (i, ab_nm G s) :: r else r
  | .inl (.inr (.inr i)), .inl (.inr s) => bif (bif Nat.ble n i then Nat.ble (i + 1) N else false) then (i, ab_nm G s) :: r else r
  | _, _ => r
noncomputable def ab_bl (n N : Nat) (G : ab_G) (Lg L : ab_L) (r : List (Nat × ab_S)) : List (Nat × ab_S) := List.rec r (fun q _ r => match ab_lk L q.1 with
    | some w => ab_bv n N G q.2 w r
    | none => r) Lg
noncomputable def ab_bh (n N : Nat) (G : ab_G) (hg h : ab_H) (fs : List (Nat × Nat × Nat × Int × Int)) : List (Nat × ab_S) := List.rec [] (fun b _ r => match ab_cl BS hg b.1, ab_cl BS h b.1 with
    | some (.inl (_, fg)), some (.inl (_, fa)) => (match ab_lk fg b.2.1, ab_lk fa b.2.1 with
      | some v, some w => ab_bv n N G v w r
      | _, _ => r)
    | _, _ => r) fs
noncomputable def ab_os (n : Nat) : ab_S → Bool
  | .inl _ => true
  | .inr j => Nat.ble (j + 1) n
/-- each stands for something within its bounds -/
noncomputable def ab_bk (σ : List (Nat × ab_S)) (n : Nat) (Gg G : ab_G) : Bool := Nat.rec true (fun j r => bif (match ab_lk σ (n + j) with
    | some s => bif (bif ab_os G.1 s then ab_le (ab_ivI Gg (n + j)).1 (ab_ivS G s).1 else false) then ab_le (ab_ivS G s).2 (ab_ivI Gg (n + j)).2 else false
    | none => false) then r else false) (Gg.1 - n)
noncomputable def ab_ms1 (G : ab_G) (a s : ab_S) : Bool := bif ab_seq a s then true else ab_seq (ab_nm G a) (ab_nm G s)
noncomputable def ab_ms (σ : List (Nat × ab_S)) (n : Nat) (G : ab_G) : ab_S → ab_S → Bool
  | .inr i, s => bif Nat.ble n i then (match ab_lk σ i with
    | some t => ab_ms1 G t s
    | none => false) else ab_ms1 G (.inr i) s
  | .inl c, s => ab_ms1 G (.inl c) s
noncomputable def ab_mv (σ : List (Nat × ab_S)) (n : Nat) (G : ab_G) : ab_V → ab_V → Bool
  | .inl (.inl a), .inl (.inl b) => ab_ms σ n G a b
  | .inl (.inr a), .inl (.inr b) => ab_ms σ n G a b
  | .inr (.inl a), .inr (.inl b) => Nat.beq a b
  | .inr (.inr a), .inr (.inr b) => Nat.beq a b
  | _, _ => false
noncomputable def ab_ml (σ : List (Nat × ab_S)) (n : Nat) (G : ab_G) (Lg L : ab_L) : Bool := List.rec true (fun q _ r => match ab_lk L q.1 with
    | some v => bif ab_mv σ n G q.2 v then r else false
    | none => false) Lg
/-- the same keys, each held by the pattern's -/
noncomputable def ab_mo (σ : List (Nat × ab_S)) (n : Nat) (G : ab_G) (fg fs : ab_L) : Bool := ab_all (fun q => match ab_lk fg q.1, ab_lk fs q.1 with
    | some a, some b => ab_mv σ n G a b
    | _, _ => false) (fg ++ fs)
noncomputable def ab_leq (σ : List (Nat × ab_S)) (n : Nat) (G : ab_G) (l m : ab_L) : Bool := List.rec (motive := fun _ => ab_L → Bool) (fun m => match m with
    | [] => true
    | _ :: _ => false) (fun q _ r m => match m with
    | [] => false
    | p :: m' => bif (bif Nat.beq q.1 p.1 then ab_mv σ n G q.2 p.2 else false) then r m' else false) l m
noncomputable def ab_mc (σ : List (Nat × ab_S)) (n : Nat) (G : ab_G) : ab_C → ab_C → Bool
  | .inl (ci, fs), .inl (cj, gs) => bif Nat.beq ci cj then ab_mo σ n G fs gs else false
  | .inr (ty, m, none), .inr (tz, l, _) => bif Nat.beq ty tz then Nat.beq m l else false
  | .inr (ty, m, some (d, a)), .inr (tz, l, some (e, b)) => bif Nat.beq ty tz then (bif Nat.beq m l then (bif ab_mv σ n G d e then ab_leq σ n G a b else false) else false) else false
  | _, _ => false
/-- the cells of two heaps -/
noncomputable def ab_mh (σ : List (Nat × ab_S)) (n : Nat) (G : ab_G) (hg h : ab_H) : Bool :=
  bif Nat.beq hg.1 h.1 then ab_all (fun q => match ab_cl BS hg q.1, ab_cl BS h q.1 with
    | some a, some b => ab_mc σ n G a b
    | _, _ => false) (hg.2 ++ h.2) else false
noncomputable def ab_mt2 (n : Nat) (Gg G : ab_G) (Lg L : ab_L) (hg h : ab_H) (σ : List (Nat × ab_S)) : Bool :=
  bif ab_bk σ n Gg G then (bif ab_ml σ n G Lg L then ab_mh BS σ n G hg h else false) else false
noncomputable def ab_mt (fs : List (Nat × Nat × Nat × Int × Int)) (n : Nat) (Gg G : ab_G) (Lg L : ab_L) (hg h : ab_H) : Bool :=
  ab_mt2 BS n Gg G Lg L hg h (ab_bl n Gg.1 G Lg L (ab_bh BS n Gg.1 G hg h fs))
noncomputable def ab_mvd (G : ab_G) (up i m : Nat) (l : List ab_D) : Bool := List.rec false (fun d _ q => bif Nat.beq d.2.2.2 m then (match d.2.1, d.2.2.1 with
    | .inr j, .inl c => bif (bif Nat.beq d.1 0 then Nat.beq j i else false) then (bif Nat.beq up 1 then ab_le 1 c else ab_le c (-1)) else q
    | _, .inr j => bif (bif (bif Nat.beq d.1 4 then Nat.beq j i else false) then Nat.beq up 0 else false) then ab_le 1 (ab_ivI G i).1 else q
    | _, _ => q) else q) l
/-- the local that moves: its value is the pattern's variable and a number more (less), or a rest by it -/
noncomputable def ab_rk2 (G : ab_G) (up i : Nat) (s : ab_S) : Bool := bif (bif Nat.beq up 1 then ab_le ((ab_ivI G i).2 + 1) (ab_ivS G s).1 else ab_le ((ab_ivS G s).2 + 1) (ab_ivI G i).1) then true else match s with
  | .inr m => ab_mvd G up i m G.2.2.2
  | .inl _ => false
noncomputable def ab_rk (r up : Nat) (Lg L : ab_L) (G : ab_G) : Bool :=
  match ab_lk Lg r, ab_lk L r with
  | some (.inl (.inl (.inr i))), some (.inl (.inl s)) => ab_rk2 G up i s
  | some (.inl (.inr (.inr i))), some (.inl (.inr s)) => ab_rk2 G up i s
  | _, _ => false
noncomputable def ab_exs (l : List (Nat × Nat)) (cuts : List Nat) : List Nat := List.rec cuts (fun q _ r => q.1 :: r) l
/-- what leaves a loop: by one of its places, or farther -/
noncomputable def ab_lx (P : Nat → ab_M) (ih : ab_X) (y : Nat) (cuts : List Nat) (ex : List (Nat × Nat)) (k : ab_K) : ab_K := fun kd e S2 L2 G2 h2 cn2 sn2 =>
  bif Nat.beq kd 2 then (match ab_lk ex e with
    | some x => (match ab_dr x (P y).1 with
      | [] => false
      | e0 :: r0 => bif Nat.beq e0.1 e then ih y cuts false (e0 :: r0) L2 S2 G2 h2 cn2 sn2 k else false)
    | none => k kd e S2 L2 G2 h2 cn2 sn2)
  else k kd e S2 L2 G2 h2 cn2 sn2
noncomputable def ab_loop (P : Nat → ab_M) (ih : ab_X) (y : Nat) (cuts : List Nat) (pos : List ab_E) (pc : Nat) (B : ab_B) (L : ab_L) (G : ab_G) (h : ab_H) (cn sn : Nat) (k : ab_K) (no : Bool) : Bool :=
  ab_gl L G B.1 (fun L1 G1 => ab_gf BS B.2.2.1 (fun hg Gg =>
    bif ab_mt BS B.2.2.1 G.1 Gg G (ab_gd B.2.2.2.1 L1) L hg h then
      ih y (pc :: ab_exs B.2.2.2.2.2.2 cuts) true pos (ab_gd B.2.2.2.1 L1) [] Gg hg cn sn (fun kd e S2 L2 G2 h2 cn2 sn2 =>
        bif (bif Nat.beq kd 2 then Nat.beq e pc else false) then
          (bif (bif S2.isEmpty then (bif Nat.beq cn2 cn then Nat.beq sn2 sn else false) else false) then
            (bif ab_mt BS B.2.2.1 G.1 Gg G2 (ab_gd B.2.2.2.1 L1) L2 hg h2 then ab_rk B.2.2.2.2.1 B.2.2.2.2.2.1 (ab_gd B.2.2.2.1 L1) L2 G2 else false)
          else false)
        else ab_lx P ih y cuts B.2.2.2.2.2.2 k kd e S2 L2 G2 h2 cn2 sn2)
    else no) (ab_gc BS h B.2.1) G1) L G
noncomputable def ab_body (P : Nat → ab_M) (NF : Nat → Nat) (HS : Nat → Nat → Option ab_B) (ih : ab_X) : ab_X := fun y cuts fst pos L S G h cn sn k =>
  match pos with
  | [] => false
  | (pc, fl, cl, A, x1, x2, X) :: rest =>
    bif (bif fst then true else Nat.beq fl 0) then ab_step BS P NF ih y cuts pos pc cl A x1 x2 X rest L S G h cn sn k else
    bif cuts.elem pc then k 2 pc S L G h cn sn else
    match HS y pc, S with
    | some B, [] => ab_loop BS P ih y cuts pos pc B L G h cn sn k (ab_step BS P NF ih y cuts pos pc cl A x1 x2 X rest L S G h cn sn k)
    | _, _ => ab_step BS P NF ih y cuts pos pc cl A x1 x2 X rest L S G h cn sn k
noncomputable def ab_run (P : Nat → ab_M) (NF : Nat → Nat) (HS : Nat → Nat → Option ab_B) (n : Nat) : ab_X := Nat.rec (fun _ _ _ _ _ _ _ _ _ _ _ => false) (fun _ ih => ab_body BS P NF HS ih) n
end AB
end
section
/-! NUMBERS of the walker. -/
theorem ab_le_iff (a b : Int) : ab_le a b = true ↔ a ≤ b := by
  cases a <;> cases b <;> simp [ab_le] <;> omega
theorem ab_eq_iff (a b : Int) : ab_eq a b = true ↔ a = b := by
  cases a <;> cases b <;> simp [ab_eq] <;> omega
theorem ab_min_eq (a b : Int) : ab_min a b = min a b := by
  unfold ab_min
  cases h : ab_le a b
  · have h2 : ¬ a ≤ b := fun q => by rw [(ab_le_iff a b).mpr q] at h; cases h
    simp only [cond_false]; omega
  · have h2 := (ab_le_iff a b).mp h
    simp only [cond_true]; omega
theorem ab_max_eq (a b : Int) : ab_max a b = max a b := by
  unfold ab_max
  cases h : ab_le a b
  · have h2 : ¬ a ≤ b := fun q => by rw [(ab_le_iff a b).mpr q] at h; cases h
    simp only [cond_false]; omega
  · have h2 := (ab_le_iff a b).mp h
    simp only [cond_true]; omega
/-- both, of a choice whose other way is false -/
theorem ab_an {c x : Bool} (h : (bif c then x else false) = true) : c = true ∧ x = true := by
  cases c
  · cases h
  · exact ⟨rfl, h⟩
theorem ab_or {c x : Bool} (h : (bif c then true else x) = true) : c = true ∨ x = true := by
  cases c
  · exact Or.inr h
  · exact Or.inl rfl
theorem ab_if {c x y : Bool} (h : (bif c then x else y) = true) : (c = true ∧ x = true) ∨ (c = false ∧ y = true) := by
  cases c
  · exact Or.inr ⟨rfl, h⟩
  · exact Or.inl ⟨rfl, h⟩
theorem ab_nle {a b : Int} (h : ab_le a b = false) : b < a := by
  have h2 : ¬ a ≤ b := fun q => by rw [(ab_le_iff a b).mpr q] at h; cases h
  omega
theorem ab_neq {a b : Int} (h : ab_eq a b = false) : a ≠ b := fun q => by rw [(ab_eq_iff a b).mpr q] at h; cases h
theorem ab_beq {a b : Nat} (h : Nat.beq a b = true) : a = b := Nat.eq_of_beq_eq_true h
theorem ab_ble {a b : Nat} (h : Nat.ble a b = true) : a ≤ b := Nat.le_of_ble_eq_true h
/-- in range -/
def ab_R (k : Nat) (z : Int) : Prop := ab_lo k ≤ z ∧ z ≤ ab_hi k
theorem ab_inR_iff (k : Nat) (p q : Int) (h : ab_inR k p q = true) : ab_lo k ≤ p ∧ q ≤ ab_hi k := by
  obtain ⟨h1, h2⟩ := ab_an h
  exact ⟨(ab_le_iff _ _).mp h1, (ab_le_iff _ _).mp h2⟩
theorem ab_lo0 : ab_lo 0 = -2147483648 := rfl
theorem ab_hi0 : ab_hi 0 = 2147483647 := rfl
theorem ab_loS {k : Nat} (h : Nat.beq k 0 = false) : ab_lo k = -9223372036854775808 := by unfold ab_lo; rw [h]; rfl
theorem ab_hiS {k : Nat} (h : Nat.beq k 0 = false) : ab_hi k = 9223372036854775807 := by unfold ab_hi; rw [h]; rfl
theorem ab_k0 {k : Nat} (h : Nat.beq k 0 = true) : k = 0 := Nat.eq_of_beq_eq_true h
theorem ab_t32 {z : Int} (h : ab_R 0 z) : (Int32.ofInt z).toInt = z := Int32.toInt_ofInt_of_le (by have := h.1; rw [ab_lo0] at this; omega) (by have := h.2; rw [ab_hi0] at this; omega)
theorem ab_t64 {z : Int} (h : -9223372036854775808 ≤ z) (h2 : z ≤ 9223372036854775807) : (Int64.ofInt z).toInt = z := Int64.toInt_ofInt_of_le (by omega) (by omega)
theorem ab_R32 (x : Int32) : ab_R 0 x.toInt := by
  have h1 := Int32.le_toInt x
  have h2 := Int32.toInt_lt x
  exact ⟨by rw [ab_lo0]; omega, by rw [ab_hi0]; omega⟩
theorem ab_R64 {k : Nat} (hk : Nat.beq k 0 = false) (x : Int64) : ab_R k x.toInt := by
  have h1 := Int64.le_toInt x
  have h2 := Int64.toInt_lt x
  exact ⟨by rw [ab_loS hk]; omega, by rw [ab_hiS hk]; omega⟩
theorem ab_opR (k op : Nat) (x y : Int) : ab_R k (ab_opZ k op x y) := by
  unfold ab_opZ
  cases hk : Nat.beq k 0
  · exact ab_R64 hk _
  · cases ab_k0 hk
    exact ab_R32 _
theorem ab_bm32 {z : Int} (h : ab_R 0 z) : z.bmod (2 ^ 32) = z := by
  have h1 := h.1; have h2 := h.2
  rw [ab_lo0] at h1; rw [ab_hi0] at h2
  exact Int.bmod_eq_of_le (by omega) (by omega)
theorem ab_bm64 {z : Int} (h1 : -9223372036854775808 ≤ z) (h2 : z ≤ 9223372036854775807) : z.bmod (2 ^ 64) = z := Int.bmod_eq_of_le (by omega) (by omega)
/-- what an exact answer becomes -/
def ab_wr (k : Nat) (z : Int) : Int := bif Nat.beq k 0 then z.bmod (2 ^ 32) else z.bmod (2 ^ 64)
theorem ab_wr_id {k : Nat} {z : Int} (h : ab_R k z) : ab_wr k z = z := by
  unfold ab_wr
  cases hk : Nat.beq k 0
  · have h1 := h.1; have h2 := h.2
    rw [ab_loS hk] at h1; rw [ab_hiS hk] at h2
    exact ab_bm64 h1 h2
  · cases ab_k0 hk
    exact ab_bm32 h
theorem ab_w_eq (k : Nat) (z : Int) : ab_w k z = ab_wr k z := by
  unfold ab_w
  cases h : ab_inR k z z
  · unfold ab_wr
    cases Nat.beq k 0 <;> rfl
  · have h2 := ab_inR_iff k z z h
    exact (ab_wr_id h2).symm
theorem ab_z_add {k : Nat} {x y : Int} (hx : ab_R k x) (hy : ab_R k y) : ab_opZ k 0 x y = ab_wr k (x + y) := by
  unfold ab_opZ ab_wr
  cases hk : Nat.beq k 0
  · have a1 := hx.1; have a2 := hx.2; have b1 := hy.1; have b2 := hy.2
    rw [ab_loS hk] at a1 b1; rw [ab_hiS hk] at a2 b2
    show (Int64.ofInt x + Int64.ofInt y).toInt = _
    rw [Int64.toInt_add, ab_t64 a1 a2, ab_t64 b1 b2]; rfl
  · cases ab_k0 hk
    show (Int32.ofInt x + Int32.ofInt y).toInt = _
    rw [Int32.toInt_add, ab_t32 hx, ab_t32 hy]; rfl
theorem ab_z_sub {k : Nat} {x y : Int} (hx : ab_R k x) (hy : ab_R k y) : ab_opZ k 1 x y = ab_wr k (x - y) := by
  unfold ab_opZ ab_wr
  cases hk : Nat.beq k 0
  · have a1 := hx.1; have a2 := hx.2; have b1 := hy.1; have b2 := hy.2
    rw [ab_loS hk] at a1 b1; rw [ab_hiS hk] at a2 b2
    show (Int64.ofInt x - Int64.ofInt y).toInt = _
    rw [Int64.toInt_sub, ab_t64 a1 a2, ab_t64 b1 b2]; rfl
  · cases ab_k0 hk
    show (Int32.ofInt x - Int32.ofInt y).toInt = _
    rw [Int32.toInt_sub, ab_t32 hx, ab_t32 hy]; rfl
theorem ab_z_mul {k : Nat} {x y : Int} (hx : ab_R k x) (hy : ab_R k y) : ab_opZ k 2 x y = ab_wr k (x * y) := by
  unfold ab_opZ ab_wr
  cases hk : Nat.beq k 0
  · have a1 := hx.1; have a2 := hx.2; have b1 := hy.1; have b2 := hy.2
    rw [ab_loS hk] at a1 b1; rw [ab_hiS hk] at a2 b2
    show (Int64.ofInt x * Int64.ofInt y).toInt = _
    rw [Int64.toInt_mul, ab_t64 a1 a2, ab_t64 b1 b2]; rfl
  · cases ab_k0 hk
    show (Int32.ofInt x * Int32.ofInt y).toInt = _
    rw [Int32.toInt_mul, ab_t32 hx, ab_t32 hy]; rfl
theorem ab_z_div {k : Nat} {x y : Int} (hx : ab_R k x) (hy : ab_R k y) : ab_opZ k 3 x y = ab_wr k (x.tdiv y) := by
  unfold ab_opZ ab_wr
  cases hk : Nat.beq k 0
  · have a1 := hx.1; have a2 := hx.2; have b1 := hy.1; have b2 := hy.2
    rw [ab_loS hk] at a1 b1; rw [ab_hiS hk] at a2 b2
    show (Int64.ofInt x / Int64.ofInt y).toInt = _
    rw [Int64.toInt_div, ab_t64 a1 a2, ab_t64 b1 b2]; rfl
  · cases ab_k0 hk
    show (Int32.ofInt x / Int32.ofInt y).toInt = _
    rw [Int32.toInt_div, ab_t32 hx, ab_t32 hy]; rfl
theorem ab_tmod_R {k : Nat} {x y : Int} (hx : ab_R k x) : ab_R k (x.tmod y) := by
  have h0 : ab_lo k ≤ 0 ∧ 0 ≤ ab_hi k := by
    cases hk : Nat.beq k 0
    · rw [ab_loS hk, ab_hiS hk]; omega
    · cases ab_k0 hk; rw [ab_lo0, ab_hi0]; omega
  have h1 := hx.1; have h2 := hx.2
  have e : (x.tmod y).natAbs ≤ x.natAbs := by
    rw [Int.natAbs_tmod]; exact Nat.mod_le _ _
  rcases Int.le_total 0 x with h | h
  · have := Int.tmod_nonneg y h
    exact ⟨by omega, by omega⟩
  · have h3 : x.tmod y ≤ 0 := by
      have := Int.tmod_nonneg y (show 0 ≤ -x by omega)
      rw [Int.neg_tmod] at this
      omega
    exact ⟨by omega, by omega⟩
theorem ab_z_rem {k : Nat} {x y : Int} (hx : ab_R k x) (hy : ab_R k y) : ab_opZ k 4 x y = x.tmod y := by
  have hR := ab_tmod_R (y := y) hx
  have e : x - x.tdiv y * y = x.tmod y := by
    have := Int.tdiv_mul_add_tmod x y
    omega
  rw [← ab_wr_id hR, ← e]
  unfold ab_opZ ab_wr
  cases hk : Nat.beq k 0
  · have a1 := hx.1; have a2 := hx.2; have b1 := hy.1; have b2 := hy.2
    rw [ab_loS hk] at a1 b1; rw [ab_hiS hk] at a2 b2
    show (Int64.ofInt x - Int64.ofInt x / Int64.ofInt y * Int64.ofInt y).toInt = (x - x.tdiv y * y).bmod (2 ^ 64)
    rw [Int64.toInt_sub, Int64.toInt_mul, Int64.toInt_div, ab_t64 a1 a2, ab_t64 b1 b2, Int.sub_bmod_bmod, ← Int.sub_bmod_bmod (x := x) (y := Int.bmod (x.tdiv y) (2 ^ 64) * y), Int.bmod_mul_bmod, Int.sub_bmod_bmod]
  · cases ab_k0 hk
    show (Int32.ofInt x - Int32.ofInt x / Int32.ofInt y * Int32.ofInt y).toInt = (x - x.tdiv y * y).bmod (2 ^ 32)
    rw [Int32.toInt_sub, Int32.toInt_mul, Int32.toInt_div, ab_t32 hx, ab_t32 hy, Int.sub_bmod_bmod, ← Int.sub_bmod_bmod (x := x) (y := Int.bmod (x.tdiv y) (2 ^ 32) * y), Int.bmod_mul_bmod, Int.sub_bmod_bmod]
theorem ab_co_eq {k op : Nat} {x y : Int} (hx : ab_R k x) (hy : ab_R k y) : ab_co k op x y = ab_opZ k op x y := by
  unfold ab_co
  cases h0 : Nat.beq op 0
  · cases h1 : Nat.beq op 1
    · cases h2 : Nat.beq op 2
      · cases h3 : Nat.beq op 3
        · cases h4 : Nat.beq op 4
          · rfl
          · cases ab_beq h4; exact (ab_z_rem hx hy).symm
        · cases ab_beq h3; exact (ab_w_eq k _).trans (ab_z_div hx hy).symm
      · cases ab_beq h2; exact (ab_w_eq k _).trans (ab_z_mul hx hy).symm
    · cases ab_beq h1; exact (ab_w_eq k _).trans (ab_z_sub hx hy).symm
  · cases ab_beq h0; exact (ab_w_eq k _).trans (ab_z_add hx hy).symm
end
section
/-! NUMBERS, the second part: what answers lie between. -/
theorem ab_and32 (a b : Int32) (h : 0 ≤ b.toInt) : 0 ≤ (a &&& b).toInt ∧ (a &&& b).toInt ≤ b.toInt := by
  have hb : b.toBitVec.msb = false := by
    rw [BitVec.msb_eq_toInt]; simpa using h
  have e : (a &&& b).toInt = ((a.toBitVec &&& b.toBitVec).toNat : Int) := by
    show (a.toBitVec &&& b.toBitVec).toInt = _
    exact BitVec.toInt_eq_toNat_of_msb (by rw [BitVec.msb_and, hb, Bool.and_false])
  have e2 : b.toInt = (b.toBitVec.toNat : Int) := BitVec.toInt_eq_toNat_of_msb hb
  rw [e, e2]
  refine ⟨Int.natCast_nonneg _, ?_⟩
  rw [BitVec.toNat_and]
  exact Int.ofNat_le.mpr Nat.and_le_right
theorem ab_and64 (a b : Int64) (h : 0 ≤ b.toInt) : 0 ≤ (a &&& b).toInt ∧ (a &&& b).toInt ≤ b.toInt := by
  have hb : b.toBitVec.msb = false := by
    rw [BitVec.msb_eq_toInt]; simpa using h
  have e : (a &&& b).toInt = ((a.toBitVec &&& b.toBitVec).toNat : Int) := by
    show (a.toBitVec &&& b.toBitVec).toInt = _
    exact BitVec.toInt_eq_toNat_of_msb (by rw [BitVec.msb_and, hb, Bool.and_false])
  have e2 : b.toInt = (b.toBitVec.toNat : Int) := BitVec.toInt_eq_toNat_of_msb hb
  rw [e, e2]
  refine ⟨Int.natCast_nonneg _, ?_⟩
  rw [BitVec.toNat_and]
  exact Int.ofNat_le.mpr Nat.and_le_right
theorem ab_xor32 (a b : Int32) (h : 0 ≤ a.toInt) (h2 : 0 ≤ b.toInt) : 0 ≤ (a ^^^ b).toInt := by
  have ha : a.toBitVec.msb = false := by
    rw [BitVec.msb_eq_toInt]; simpa using h
  have hb : b.toBitVec.msb = false := by
    rw [BitVec.msb_eq_toInt]; simpa using h2
  show 0 ≤ (a.toBitVec ^^^ b.toBitVec).toInt
  rw [BitVec.toInt_eq_toNat_of_msb (by rw [BitVec.msb_xor, ha, hb]; rfl)]
  exact Int.natCast_nonneg _
theorem ab_xor64 (a b : Int64) (h : 0 ≤ a.toInt) (h2 : 0 ≤ b.toInt) : 0 ≤ (a ^^^ b).toInt := by
  have ha : a.toBitVec.msb = false := by
    rw [BitVec.msb_eq_toInt]; simpa using h
  have hb : b.toBitVec.msb = false := by
    rw [BitVec.msb_eq_toInt]; simpa using h2
  show 0 ≤ (a.toBitVec ^^^ b.toBitVec).toInt
  rw [BitVec.toInt_eq_toNat_of_msb (by rw [BitVec.msb_xor, ha, hb]; rfl)]
  exact Int.natCast_nonneg _
theorem ab_shr0 (z : Int) (n : Nat) (h : 0 ≤ z) : 0 ≤ z >>> n ∧ z >>> n ≤ z := by
  obtain ⟨m, rfl⟩ := Int.eq_ofNat_of_zero_le h
  have e : ((m : Int) >>> n) = ((m >>> n : Nat) : Int) := rfl
  rw [e]
  refine ⟨Int.natCast_nonneg _, Int.ofNat_le.mpr ?_⟩
  rw [Nat.shiftRight_eq_div_pow]
  exact Nat.div_le_self _ _
theorem ab_shr32 (a b : Int32) (h : 0 ≤ a.toInt) : 0 ≤ (a >>> b).toInt ∧ (a >>> b).toInt ≤ a.toInt := by
  have e : (a >>> b).toInt = a.toInt >>> (b.toBitVec.smod 32).toNat := by
    show (a.toBitVec.sshiftRight' (b.toBitVec.smod 32)).toInt = _
    rw [BitVec.sshiftRight_eq', BitVec.toInt_sshiftRight]; rfl
  rw [e]
  exact ab_shr0 _ _ h
theorem ab_shr64 (a b : Int64) (h : 0 ≤ a.toInt) : 0 ≤ (a >>> b).toInt ∧ (a >>> b).toInt ≤ a.toInt := by
  have e : (a >>> b).toInt = a.toInt >>> (b.toBitVec.smod 64).toNat := by
    show (a.toBitVec.sshiftRight' (b.toBitVec.smod 64)).toInt = _
    rw [BitVec.sshiftRight_eq', BitVec.toInt_sshiftRight]; rfl
  rw [e]
  exact ab_shr0 _ _ h
theorem ab_td_mono {a b c : Int} (hc : 1 ≤ c) (h : a ≤ b) : a.tdiv c ≤ b.tdiv c := by
  rcases Int.le_total 0 a with ha | ha
  · rw [Int.tdiv_eq_ediv_of_nonneg ha, Int.tdiv_eq_ediv_of_nonneg (Int.le_trans ha h)]
    exact Int.ediv_le_ediv (by omega) h
  · rcases Int.le_total 0 b with hb | hb
    · have h1 : a.tdiv c ≤ 0 := by
        have := Int.tdiv_nonneg (show 0 ≤ -a by omega) (show 0 ≤ c by omega)
        rw [Int.neg_tdiv] at this
        omega
      have h2 := Int.tdiv_nonneg hb (show 0 ≤ c by omega)
      omega
    · have e1 : a.tdiv c = -((-a).tdiv c) := by rw [Int.neg_tdiv]; omega
      have e2 : b.tdiv c = -((-b).tdiv c) := by rw [Int.neg_tdiv]; omega
      rw [e1, e2, Int.tdiv_eq_ediv_of_nonneg (show 0 ≤ -a by omega), Int.tdiv_eq_ediv_of_nonneg (show 0 ≤ -b by omega)]
      have := Int.ediv_le_ediv (show 0 < c by omega) (show -b ≤ -a by omega)
      omega
theorem ab_td_pos {a c : Int} (hc : 1 ≤ c) : min a 0 ≤ a.tdiv c ∧ a.tdiv c ≤ max a 0 := by
  rcases Int.le_total 0 a with ha | ha
  · have h1 := Int.tdiv_nonneg ha (show 0 ≤ c by omega)
    have h2 : a.tdiv c ≤ a := by
      rw [Int.tdiv_eq_ediv_of_nonneg ha]
      exact Int.ediv_le_self c ha
    omega
  · have h1 := Int.tdiv_nonneg (show 0 ≤ -a by omega) (show 0 ≤ c by omega)
    have h2 : (-a).tdiv c ≤ -a := by
      rw [Int.tdiv_eq_ediv_of_nonneg (show 0 ≤ -a by omega)]
      exact Int.ediv_le_self c (by omega)
    rw [Int.neg_tdiv] at h1 h2
    omega
theorem ab_tm_pos {a b : Int} (hb : 1 ≤ b) : 1 - b ≤ a.tmod b ∧ a.tmod b ≤ b - 1 ∧ (0 ≤ a → 0 ≤ a.tmod b) := by
  have h1 := Int.tmod_lt_of_pos a (show 0 < b by omega)
  have h2 := Int.tmod_lt_of_pos (-a) (show 0 < b by omega)
  rw [Int.neg_tmod] at h2
  exact ⟨by omega, by omega, fun h => Int.tmod_nonneg b h⟩
theorem ab_z_and {k : Nat} {x y : Int} (hx : ab_R k x) (hy : ab_R k y) : (0 ≤ y → 0 ≤ ab_opZ k 5 x y ∧ ab_opZ k 5 x y ≤ y) ∧ (0 ≤ x → 0 ≤ ab_opZ k 5 x y ∧ ab_opZ k 5 x y ≤ x) := by
  unfold ab_opZ
  cases hk : Nat.beq k 0
  · have a1 := hx.1; have a2 := hx.2; have b1 := hy.1; have b2 := hy.2
    rw [ab_loS hk] at a1 b1; rw [ab_hiS hk] at a2 b2
    have ex := ab_t64 a1 a2
    have ey := ab_t64 b1 b2
    show (0 ≤ y → 0 ≤ (Int64.ofInt x &&& Int64.ofInt y).toInt ∧ (Int64.ofInt x &&& Int64.ofInt y).toInt ≤ y) ∧ (0 ≤ x → 0 ≤ (Int64.ofInt x &&& Int64.ofInt y).toInt ∧ (Int64.ofInt x &&& Int64.ofInt y).toInt ≤ x)
    refine ⟨fun h => ?_, fun h => ?_⟩
    · have := ab_and64 (Int64.ofInt x) (Int64.ofInt y) (by rw [ey]; exact h)
      rw [ey] at this; exact this
    · have := ab_and64 (Int64.ofInt y) (Int64.ofInt x) (by rw [ex]; exact h)
      rw [ex, Int64.and_comm] at this; exact this
  · cases ab_k0 hk
    have ex := ab_t32 hx
    have ey := ab_t32 hy
    show (0 ≤ y → 0 ≤ (Int32.ofInt x &&& Int32.ofInt y).toInt ∧ (Int32.ofInt x &&& Int32.ofInt y).toInt ≤ y) ∧ (0 ≤ x → 0 ≤ (Int32.ofInt x &&& Int32.ofInt y).toInt ∧ (Int32.ofInt x &&& Int32.ofInt y).toInt ≤ x)
    refine ⟨fun h => ?_, fun h => ?_⟩
    · have := ab_and32 (Int32.ofInt x) (Int32.ofInt y) (by rw [ey]; exact h)
      rw [ey] at this; exact this
    · have := ab_and32 (Int32.ofInt y) (Int32.ofInt x) (by rw [ex]; exact h)
      rw [ex, Int32.and_comm] at this; exact this
theorem ab_z_xor {k : Nat} {x y : Int} (hx : ab_R k x) (hy : ab_R k y) (h0 : 0 ≤ x) (h1 : 0 ≤ y) : 0 ≤ ab_opZ k 7 x y := by
  unfold ab_opZ
  cases hk : Nat.beq k 0
  · have a1 := hx.1; have a2 := hx.2; have b1 := hy.1; have b2 := hy.2
    rw [ab_loS hk] at a1 b1; rw [ab_hiS hk] at a2 b2
    exact ab_xor64 _ _ (by rw [ab_t64 a1 a2]; exact h0) (by rw [ab_t64 b1 b2]; exact h1)
  · cases ab_k0 hk
    exact ab_xor32 _ _ (by rw [ab_t32 hx]; exact h0) (by rw [ab_t32 hy]; exact h1)
theorem ab_z_shr {k : Nat} {x y : Int} (hx : ab_R k x) (h0 : 0 ≤ x) : 0 ≤ ab_opZ k 9 x y ∧ ab_opZ k 9 x y ≤ x := by
  unfold ab_opZ
  cases hk : Nat.beq k 0
  · have a1 := hx.1; have a2 := hx.2
    rw [ab_loS hk] at a1; rw [ab_hiS hk] at a2
    have ex := ab_t64 a1 a2
    have := ab_shr64 (Int64.ofInt x) (Int64.ofInt y &&& 63) (by rw [ex]; exact h0)
    rw [ex] at this
    exact this
  · cases ab_k0 hk
    have ex := ab_t32 hx
    have := ab_shr32 (Int32.ofInt x) (Int32.ofInt y &&& 31) (by rw [ex]; exact h0)
    rw [ex] at this
    exact this
end
section
/-! WHAT A STATE OF THE WALKER SAYS of numbers, and that its arithmetic keeps it. -/
theorem ab_seq_iff {a b : ab_S} (h : ab_seq a b = true) : a = b := by
  cases a <;> cases b
  · rw [(ab_eq_iff _ _).mp h]
  · cases h
  · cases h
  · rw [ab_beq h]
theorem ab_lk_nil {α : Type} (i : Nat) : ab_lk ([] : List (Nat × α)) i = none := rfl
theorem ab_lk_cons {α : Type} (j : Nat) (v : α) (l : List (Nat × α)) (i : Nat) : ab_lk ((j, v) :: l) i = bif Nat.beq j i then some v else ab_lk l i := rfl
theorem ab_lk_self {α : Type} (j : Nat) (v : α) (l : List (Nat × α)) : ab_lk ((j, v) :: l) j = some v := by
  rw [ab_lk_cons, Nat.beq_refl]; rfl
theorem ab_lk_ne {α : Type} {j i : Nat} (v : α) (l : List (Nat × α)) (h : j ≠ i) : ab_lk ((j, v) :: l) i = ab_lk l i := by
  rw [ab_lk_cons]
  cases hb : Nat.beq j i
  · rfl
  · exact absurd (ab_beq hb) h
theorem ab_all_mem {α : Type} {f : α → Bool} : ∀ {l : List α}, ab_all f l = true → ∀ a ∈ l, f a = true
  | [], _, a, h => absurd h List.not_mem_nil
  | b :: l, h, a, hm => by
    have h2 : (bif f b then ab_all f l else false) = true := h
    obtain ⟨h3, h4⟩ := ab_an h2
    rcases List.mem_cons.mp hm with rfl | hm
    · exact h3
    · exact ab_all_mem h4 a hm
def ab_sv (ρ : Nat → Int) : ab_S → Int
  | .inl c => c
  | .inr i => ρ i
def ab_oS (n : Nat) : ab_S → Prop
  | .inl _ => True
  | .inr i => i < n
def ab_dz (op : Nat) (x y : Int) : Int := bif Nat.beq op 0 then x + y else bif Nat.beq op 1 then x - y else bif Nat.beq op 2 then x * y else bif Nat.beq op 3 then x.tdiv y else x.tmod y
def ab_Sat (ρ : Nat → Int) (G : ab_G) : Prop :=
  (∀ (i : Nat) (p : Int × Int), ab_lk G.2.1 i = some p → i < G.1 ∧ p.1 ≤ ρ i ∧ ρ i ≤ p.2) ∧ (∀ i, i < G.1 → ∃ p, ab_lk G.2.1 i = some p) ∧
  (∀ f ∈ G.2.2.1, ab_oS G.1 f.2.1 ∧ ab_oS G.1 f.2.2 ∧ f.1 ≤ 5 ∧ ab_hold f.1 (ab_sv ρ f.2.1) (ab_sv ρ f.2.2) = true) ∧
  (∀ d ∈ G.2.2.2, ab_oS G.1 d.2.1 ∧ ab_oS G.1 d.2.2.1 ∧ d.2.2.2 < G.1 ∧ ρ d.2.2.2 = ab_dz d.1 (ab_sv ρ d.2.1) (ab_sv ρ d.2.2.1))
def ab_Ext (n : Nat) (ρ : Nat → Int) (n' : Nat) (ρ' : Nat → Int) : Prop := n ≤ n' ∧ ∀ i, i < n → ρ' i = ρ i
theorem ab_Ext.rf (n : Nat) (ρ : Nat → Int) : ab_Ext n ρ n ρ := ⟨Nat.le_refl _, fun _ _ => rfl⟩
theorem ab_Ext.tr {n n1 n2 : Nat} {ρ ρ1 ρ2 : Nat → Int} (h : ab_Ext n ρ n1 ρ1) (h2 : ab_Ext n1 ρ1 n2 ρ2) : ab_Ext n ρ n2 ρ2 :=
  ⟨Nat.le_trans h.1 h2.1, fun i hi => (h2.2 i (Nat.lt_of_lt_of_le hi h.1)).trans (h.2 i hi)⟩
theorem ab_Ext.sv {n n' : Nat} {ρ ρ' : Nat → Int} (h : ab_Ext n ρ n' ρ') {s : ab_S} (hs : ab_oS n s) : ab_sv ρ' s = ab_sv ρ s := by
  cases s with
  | inl c => rfl
  | inr i => exact h.2 i hs
theorem ab_Ext.oS {n n' : Nat} {ρ ρ' : Nat → Int} (h : ab_Ext n ρ n' ρ') {s : ab_S} (hs : ab_oS n s) : ab_oS n' s := by
  cases s with
  | inl c => trivial
  | inr i => exact Nat.lt_of_lt_of_le hs h.1
def ab_Y (G : ab_G) (ρ : Nat → Int) (f : ab_S → ab_G → Bool) (z : Int) : Prop := ∃ s G' ρ', f s G' = true ∧ ab_Ext G.1 ρ G'.1 ρ' ∧ ab_Sat ρ' G' ∧ ab_oS G'.1 s ∧ ab_sv ρ' s = z
theorem ab_iv_ok {ρ : Nat → Int} {G : ab_G} (hs : ab_Sat ρ G) {s : ab_S} (ho : ab_oS G.1 s) : (ab_ivS G s).1 ≤ ab_sv ρ s ∧ ab_sv ρ s ≤ (ab_ivS G s).2 := by
  cases s with
  | inl c => exact ⟨Int.le_refl _, Int.le_refl _⟩
  | inr i =>
    obtain ⟨p, hp⟩ := hs.2.1 i ho
    have h := hs.1 i p hp
    show (ab_ivI G i).1 ≤ ρ i ∧ ρ i ≤ (ab_ivI G i).2
    unfold ab_ivI
    rw [hp]
    exact h.2
theorem ab_nm_ok {ρ : Nat → Int} {G : ab_G} (hs : ab_Sat ρ G) {s : ab_S} (ho : ab_oS G.1 s) : ab_oS G.1 (ab_nm G s) ∧ ab_sv ρ (ab_nm G s) = ab_sv ρ s := by
  cases s with
  | inl c => exact ⟨trivial, rfl⟩
  | inr i =>
    have h := ab_iv_ok hs ho
    show ab_oS G.1 (match ab_ivI G i with | (p, q) => bif ab_eq p q then .inl p else .inr i) ∧ ab_sv ρ (match ab_ivI G i with | (p, q) => bif ab_eq p q then .inl p else .inr i) = ρ i
    have h2 : (ab_ivI G i).1 ≤ ρ i ∧ ρ i ≤ (ab_ivI G i).2 := h
    cases hb : ab_eq (ab_ivI G i).1 (ab_ivI G i).2
    · dsimp only
      rw [hb]
      exact ⟨ho, rfl⟩
    · dsimp only
      rw [hb]
      have e := (ab_eq_iff _ _).mp hb
      refine ⟨trivial, ?_⟩
      show (ab_ivI G i).1 = ρ i
      omega
/-- a new variable -/
theorem ab_push {ρ : Nat → Int} {G : ab_G} (hs : ab_Sat ρ G) {p q z : Int} (hz : p ≤ z ∧ z ≤ q) :
    ∃ ρ' : Nat → Int, ab_Ext G.1 ρ (G.1 + 1) ρ' ∧ ρ' G.1 = z ∧ ab_Sat ρ' (G.1 + 1, (G.1, (p, q)) :: G.2.1, G.2.2) := by
  have hE : ab_Ext G.1 ρ (G.1 + 1) (fun i => if i = G.1 then z else ρ i) := ⟨Nat.le_succ _, fun i hi => if_neg (Nat.ne_of_lt hi)⟩
  refine ⟨fun i => if i = G.1 then z else ρ i, hE, if_pos rfl, ?_, ?_, ?_, ?_⟩
  · intro i r hr
    by_cases hi : i = G.1
    · subst hi
      rw [ab_lk_self] at hr
      cases hr
      exact ⟨Nat.lt_succ_self _, by dsimp only; rw [if_pos rfl]; exact hz⟩
    · rw [ab_lk_ne _ _ (fun e => hi e.symm)] at hr
      have h := hs.1 i r hr
      exact ⟨Nat.lt_succ_of_lt h.1, by dsimp only; rw [if_neg hi]; exact h.2⟩
  · intro i hi
    by_cases he : i = G.1
    · subst he
      exact ⟨_, ab_lk_self _ _ _⟩
    · obtain ⟨r, hr⟩ := hs.2.1 i (by have : i < G.1 + 1 := hi; omega)
      exact ⟨r, by rw [ab_lk_ne _ _ (fun e => he e.symm)]; exact hr⟩
  · intro f hf
    obtain ⟨h1, h2, h3⟩ := hs.2.2.1 f hf
    refine ⟨hE.oS h1, hE.oS h2, h3.1, ?_⟩
    rw [hE.sv h1, hE.sv h2]
    exact h3.2
  · intro d hd
    obtain ⟨h1, h2, h3, h4⟩ := hs.2.2.2 d hd
    refine ⟨hE.oS h1, hE.oS h2, Nat.lt_succ_of_lt h3, ?_⟩
    rw [hE.sv h1, hE.sv h2, hE.2 _ h3]
    exact h4
theorem ab_fr_ok {ρ : Nat → Int} {G : ab_G} (hs : ab_Sat ρ G) {p q z : Int} (hz : p ≤ z ∧ z ≤ q) {f : ab_S → ab_G → Bool} (h : ab_fr G p q f = true) : ab_Y G ρ f z := by
  unfold ab_fr at h
  rcases ab_if h with ⟨e, h⟩ | ⟨-, h⟩
  · have e := (ab_eq_iff _ _).mp e
    exact ⟨_, G, ρ, h, ab_Ext.rf _ _, hs, trivial, by show p = z; omega⟩
  · obtain ⟨ρ', h1, h2, h3⟩ := ab_push hs hz
    exact ⟨_, _, ρ', h, h1, h3, Nat.lt_succ_self _, h2⟩
theorem ab_find_ok {op : Nat} {a b : ab_S} {r : Nat} : ∀ {l : List ab_D}, ab_find op a b l = some r → (op, a, b, r) ∈ l
  | [], h => by cases h
  | d :: l, h => by
    have h2 : (bif (bif Nat.beq d.1 op then (bif ab_seq d.2.1 a then ab_seq d.2.2.1 b else false) else false) then some d.2.2.2 else ab_find op a b l) = some r := h
    cases hc : (bif Nat.beq d.1 op then (bif ab_seq d.2.1 a then ab_seq d.2.2.1 b else false) else false)
    · rw [hc] at h2
      exact List.mem_cons_of_mem _ (ab_find_ok h2)
    · rw [hc] at h2
      obtain ⟨h3, h4⟩ := ab_an hc
      obtain ⟨h4, h5⟩ := ab_an h4
      obtain ⟨o, x, y, r'⟩ := d
      have e1 : o = op := ab_beq h3
      have e2 : x = a := ab_seq_iff h4
      have e3 : y = b := ab_seq_iff h5
      have e4 : r' = r := Option.some.inj h2
      subst e1; subst e2; subst e3; subst e4
      exact List.mem_cons_self
theorem ab_fd_ok {ρ : Nat → Int} {G : ab_G} (hs : ab_Sat ρ G) {op : Nat} {a b : ab_S} {p q z : Int} (ha : ab_oS G.1 a) (hb : ab_oS G.1 b) (he : z = ab_dz op (ab_sv ρ a) (ab_sv ρ b)) (hz : p ≤ z ∧ z ≤ q) {f : ab_S → ab_G → Bool}
    (h : ab_fd G op a b p q f = true) : ab_Y G ρ f z := by
  unfold ab_fd at h
  split at h
  · rename_i r hr
    obtain ⟨-, -, h3, h4⟩ := hs.2.2.2 _ (ab_find_ok hr)
    obtain ⟨h5, h6⟩ := ab_nm_ok hs (s := .inr r) h3
    exact ⟨_, G, ρ, h, ab_Ext.rf _ _, hs, h5, h6.trans (h4.trans he.symm)⟩
  · rcases ab_if h with ⟨e, h⟩ | ⟨-, h⟩
    · have e := (ab_eq_iff _ _).mp e
      exact ⟨_, G, ρ, h, ab_Ext.rf _ _, hs, trivial, by show p = z; omega⟩
    · obtain ⟨ρ', h1, h2, h3⟩ := ab_push hs hz
      refine ⟨_, _, ρ', h, h1, ⟨h3.1, h3.2.1, h3.2.2.1, ?_⟩, Nat.lt_succ_self _, h2⟩
      intro d hd
      rcases List.mem_cons.mp hd with rfl | hd
      · refine ⟨h1.oS ha, h1.oS hb, Nat.lt_succ_self _, ?_⟩
        show ρ' G.1 = _
        rw [h2, h1.sv ha, h1.sv hb]
        exact he
      · exact h3.2.2.2 d hd
theorem ab_full_ok {ρ : Nat → Int} {G : ab_G} (hs : ab_Sat ρ G) {k : Nat} {z : Int} (hz : ab_R k z) {f : ab_S → ab_G → Bool} (h : ab_full k G f = true) : ab_Y G ρ f z := ab_fr_ok hs hz h
theorem ab_mk_ok {ρ : Nat → Int} {G : ab_G} (hs : ab_Sat ρ G) {k op : Nat} {a b : ab_S} {p q z : Int} (ha : ab_oS G.1 a) (hb : ab_oS G.1 b) (hp : p ≤ ab_dz op (ab_sv ρ a) (ab_sv ρ b) ∧ ab_dz op (ab_sv ρ a) (ab_sv ρ b) ≤ q) (hR : ab_R k z)
    (he : ab_R k (ab_dz op (ab_sv ρ a) (ab_sv ρ b)) → z = ab_dz op (ab_sv ρ a) (ab_sv ρ b)) {f : ab_S → ab_G → Bool} (h : ab_mk k G op a b p q f = true) : ab_Y G ρ f z := by
  unfold ab_mk at h
  rcases ab_if h with ⟨e, h⟩ | ⟨-, h⟩
  · obtain ⟨h1, h2⟩ := ab_inR_iff _ _ _ e
    have hz := he ⟨Int.le_trans h1 hp.1, Int.le_trans hp.2 h2⟩
    exact ab_fd_ok hs ha hb hz (by rw [hz]; exact hp) h
  · exact ab_full_ok hs hR h
theorem ab_nw_ok {ρ : Nat → Int} {G : ab_G} (hs : ab_Sat ρ G) {k : Nat} {p q z : Int} (hp : p ≤ z ∧ z ≤ q) (hR : ab_R k z) {f : ab_S → ab_G → Bool} (h : ab_nw k G p q f = true) : ab_Y G ρ f z := by
  unfold ab_nw at h
  rcases ab_if h with ⟨-, h⟩ | ⟨-, h⟩
  · exact ab_fr_ok hs hp h
  · exact ab_full_ok hs hR h
theorem ab_Y.old {ρ : Nat → Int} {G : ab_G} (hs : ab_Sat ρ G) {s : ab_S} (ho : ab_oS G.1 s) {z : Int} (hz : ab_sv ρ s = z) {f : ab_S → ab_G → Bool} (h : f s G = true) : ab_Y G ρ f z := ⟨s, G, ρ, h, ab_Ext.rf _ _, hs, ho, hz⟩
section Ar
theorem ab_R_zero (k : Nat) : ab_R k 0 := by
  cases hk : Nat.beq k 0
  · exact ⟨by rw [ab_loS hk]; omega, by rw [ab_hiS hk]; omega⟩
  · cases ab_k0 hk; exact ⟨by rw [ab_lo0]; omega, by rw [ab_hi0]; omega⟩
variable {ρ : Nat → Int} {G : ab_G} {k : Nat} {a b : ab_S} {f : ab_S → ab_G → Bool}
theorem ab_add_ok (hs : ab_Sat ρ G) (ha : ab_oS G.1 a) (hb : ab_oS G.1 b) (hx : ab_R k (ab_sv ρ a)) (hy : ab_R k (ab_sv ρ b)) (h : ab_add k G a b f = true) : ab_Y G ρ f (ab_opZ k 0 (ab_sv ρ a) (ab_sv ρ b)) := by
  have e := ab_z_add hx hy
  have i1 := ab_iv_ok hs ha
  have i2 := ab_iv_ok hs hb
  unfold ab_add at h
  rcases ab_if h with ⟨c, h⟩ | ⟨-, h⟩
  · have e0 : ab_sv ρ b = 0 := by rw [ab_seq_iff c]; rfl
    refine ab_Y.old hs ha ?_ h
    rw [e, e0, Int.add_zero, ab_wr_id hx]
  rcases ab_if h with ⟨c, h⟩ | ⟨-, h⟩
  · have e0 : ab_sv ρ a = 0 := by rw [ab_seq_iff c]; rfl
    refine ab_Y.old hs hb ?_ h
    rw [e, e0, Int.zero_add, ab_wr_id hy]
  · refine ab_mk_ok hs ha hb ?_ (ab_opR _ _ _ _) (fun hR => ?_) h
    · show _ ≤ ab_sv ρ a + ab_sv ρ b ∧ ab_sv ρ a + ab_sv ρ b ≤ _
      omega
    · rw [e]; exact ab_wr_id hR
theorem ab_sub_ok (hs : ab_Sat ρ G) (ha : ab_oS G.1 a) (hb : ab_oS G.1 b) (hx : ab_R k (ab_sv ρ a)) (hy : ab_R k (ab_sv ρ b)) (h : ab_sub k G a b f = true) : ab_Y G ρ f (ab_opZ k 1 (ab_sv ρ a) (ab_sv ρ b)) := by
  have e := ab_z_sub hx hy
  have i1 := ab_iv_ok hs ha
  have i2 := ab_iv_ok hs hb
  unfold ab_sub at h
  rcases ab_if h with ⟨c, h⟩ | ⟨-, h⟩
  · have e0 : ab_sv ρ b = 0 := by rw [ab_seq_iff c]; rfl
    refine ab_Y.old hs ha ?_ h
    rw [e, e0, Int.sub_zero, ab_wr_id hx]
  rcases ab_if h with ⟨c, h⟩ | ⟨-, h⟩
  · have e0 : ab_sv ρ b = ab_sv ρ a := by rw [ab_seq_iff c]
    refine ab_Y.old hs (s := .inl 0) trivial ?_ h
    rw [e, e0, Int.sub_self]
    exact (ab_wr_id (ab_R_zero k)).symm
  cases b with
  | inl c =>
    refine ab_mk_ok hs ha (b := .inl (-c)) trivial ?_ (ab_opR _ _ _ _) (fun hR => ?_) h
    · show _ ≤ ab_sv ρ a + -c ∧ ab_sv ρ a + -c ≤ _
      omega
    · rw [e]
      show ab_wr k (ab_sv ρ a - c) = ab_sv ρ a + -c
      have hR' : ab_R k (ab_sv ρ a + -c) := hR
      rw [Int.sub_eq_add_neg]
      exact ab_wr_id hR'
  | inr i =>
    refine ab_mk_ok hs ha (b := .inr i) hb ?_ (ab_opR _ _ _ _) (fun hR => ?_) h
    · show _ ≤ ab_sv ρ a - ρ i ∧ ab_sv ρ a - ρ i ≤ _
      have i3 : (ab_ivI G i).1 ≤ ρ i ∧ ρ i ≤ (ab_ivI G i).2 := i2
      omega
    · rw [e]; exact ab_wr_id hR
theorem ab_mul_iv {x y a1 a2 b1 b2 : Int} (h1 : 0 ≤ a1) (h2 : a1 ≤ x) (h3 : x ≤ a2) (h4 : 0 ≤ b1) (h5 : b1 ≤ y) (h6 : y ≤ b2) : a1 * b1 ≤ x * y ∧ x * y ≤ a2 * b2 :=
  ⟨Int.mul_le_mul h2 h5 h4 (Int.le_trans h1 h2), Int.mul_le_mul h3 h6 (Int.le_trans h4 h5) (Int.le_trans h1 (Int.le_trans h2 h3))⟩
theorem ab_mulc_ok {i : Nat} {c z : Int} (hs : ab_Sat ρ G) (hi : i < G.1) (hx : ab_R k (ρ i)) (hR : ab_R k z) (he : z = ab_wr k (ρ i * c)) (h : ab_mulc k G i c f = true) : ab_Y G ρ f z := by
  have i1 : (ab_ivI G i).1 ≤ ρ i ∧ ρ i ≤ (ab_ivI G i).2 := ab_iv_ok hs (s := .inr i) hi
  unfold ab_mulc at h
  rcases ab_if h with ⟨q, h⟩ | ⟨-, h⟩
  · have e1 := (ab_eq_iff _ _).mp q
    refine ab_Y.old hs (s := .inr i) hi ?_ h
    rw [he, e1, Int.mul_one, ab_wr_id hx]; rfl
  rcases ab_if h with ⟨q, h⟩ | ⟨-, h⟩
  · have e1 := (ab_eq_iff _ _).mp q
    refine ab_Y.old hs (s := .inl 0) trivial ?_ h
    rw [he, e1, Int.mul_zero, ab_wr_id (ab_R_zero k)]; rfl
  rcases ab_if h with ⟨q, h⟩ | ⟨q, h⟩
  · have hc := (ab_le_iff _ _).mp q
    refine ab_mk_ok hs (a := .inr i) (b := .inl c) hi trivial ?_ hR (fun hq => ?_) h
    · exact ⟨Int.mul_le_mul_of_nonneg_right i1.1 hc, Int.mul_le_mul_of_nonneg_right i1.2 hc⟩
    · rw [he]; exact ab_wr_id hq
  · have hc := ab_nle q
    refine ab_mk_ok hs (a := .inr i) (b := .inl c) hi trivial ?_ hR (fun hq => ?_) h
    · exact ⟨Int.mul_le_mul_of_nonpos_right i1.2 (Int.le_of_lt hc), Int.mul_le_mul_of_nonpos_right i1.1 (Int.le_of_lt hc)⟩
    · rw [he]; exact ab_wr_id hq
theorem ab_mul_ok (hs : ab_Sat ρ G) (ha : ab_oS G.1 a) (hb : ab_oS G.1 b) (hx : ab_R k (ab_sv ρ a)) (hy : ab_R k (ab_sv ρ b)) (h : ab_mul k G a b f = true) : ab_Y G ρ f (ab_opZ k 2 (ab_sv ρ a) (ab_sv ρ b)) := by
  have e := ab_z_mul hx hy
  cases a with
  | inl c =>
    cases b with
    | inl d => cases h
    | inr i => exact ab_mulc_ok hs hb hy (ab_opR _ _ _ _) (by rw [e, Int.mul_comm]; rfl) h
  | inr i =>
    cases b with
    | inl d => exact ab_mulc_ok hs ha hx (ab_opR _ _ _ _) e h
    | inr j =>
      rcases ab_if h with ⟨q, h⟩ | ⟨-, h⟩
      · obtain ⟨q1, q2⟩ := ab_an q
        have q1 := (ab_le_iff _ _).mp q1
        have q2 := (ab_le_iff _ _).mp q2
        have i1 : (ab_ivI G i).1 ≤ ρ i ∧ ρ i ≤ (ab_ivI G i).2 := ab_iv_ok hs (s := .inr i) ha
        have i2 : (ab_ivI G j).1 ≤ ρ j ∧ ρ j ≤ (ab_ivI G j).2 := ab_iv_ok hs (s := .inr j) hb
        refine ab_mk_ok hs (a := .inr i) (b := .inr j) ha hb ?_ (ab_opR _ _ _ _) (fun hq => ?_) h
        · exact ab_mul_iv q1 i1.1 i1.2 q2 i2.1 i2.2
        · rw [e]; exact ab_wr_id hq
      · exact ab_full_ok hs (ab_opR _ _ _ _) h
theorem ab_div_ok (hs : ab_Sat ρ G) (ha : ab_oS G.1 a) (hb : ab_oS G.1 b) (hx : ab_R k (ab_sv ρ a)) (hy : ab_R k (ab_sv ρ b)) (h : ab_div k G a b f = true) : ab_sv ρ b ≠ 0 ∧ ab_Y G ρ f (ab_opZ k 3 (ab_sv ρ a) (ab_sv ρ b)) := by
  have e := ab_z_div hx hy
  have i1 := ab_iv_ok hs ha
  have i2 := ab_iv_ok hs hb
  unfold ab_div at h
  obtain ⟨q, h⟩ := ab_an h
  have q := (ab_le_iff _ _).mp q
  refine ⟨by omega, ?_⟩
  cases b with
  | inl c =>
    have q : 1 ≤ c := q
    rcases ab_if h with ⟨q1, h⟩ | ⟨-, h⟩
    · have q1 := (ab_eq_iff _ _).mp q1
      refine ab_Y.old hs ha ?_ h
      rw [e]
      show ab_sv ρ a = ab_wr k ((ab_sv ρ a).tdiv c)
      rw [q1, Int.tdiv_one, ab_wr_id hx]
    · refine ab_mk_ok hs ha (b := .inl c) trivial ?_ (ab_opR _ _ _ _) (fun hq => ?_) h
      · exact ⟨ab_td_mono q i1.1, ab_td_mono q i1.2⟩
      · rw [e]; exact ab_wr_id hq
  | inr i =>
    have i3 : (ab_ivI G i).1 ≤ ρ i ∧ ρ i ≤ (ab_ivI G i).2 := i2
    have q : 1 ≤ (ab_ivI G i).1 := q
    refine ab_mk_ok hs ha (b := .inr i) hb ?_ (ab_opR _ _ _ _) (fun hq => ?_) h
    · have := ab_td_pos (a := ab_sv ρ a) (c := ρ i) (by omega)
      rw [ab_min_eq, ab_max_eq]
      show _ ≤ (ab_sv ρ a).tdiv (ρ i) ∧ (ab_sv ρ a).tdiv (ρ i) ≤ _
      omega
    · rw [e]; exact ab_wr_id hq
theorem ab_ltd_ok {a : ab_S} {j : Nat} : ∀ {l : List ab_D}, ab_ltd l a j = true → ∃ d ∈ l, d.1 = 4 ∧ d.2.2.1 = a ∧ d.2.2.2 = j
  | [], h => by cases h
  | d :: l, h => by
    have h' : (bif (bif Nat.beq d.1 4 then (bif ab_seq d.2.2.1 a then Nat.beq d.2.2.2 j else false) else false) then true else ab_ltd l a j) = true := h
    rcases ab_if h' with ⟨q, -⟩ | ⟨-, q⟩
    · obtain ⟨q1, q2⟩ := ab_an q
      obtain ⟨q3, q4⟩ := ab_an q2
      exact ⟨d, List.mem_cons_self, ab_beq q1, ab_seq_iff q3, ab_beq q4⟩
    · obtain ⟨d2, h1, h2⟩ := ab_ltd_ok q
      exact ⟨d2, List.mem_cons_of_mem _ h1, h2⟩
theorem ab_half {x z : Int} (hx : 0 ≤ x) (h1 : 1 ≤ z.tmod x) : x.tmod (z.tmod x) ≤ x / 2 := by
  by_cases h0 : x = 0
  · subst h0
    rw [Int.zero_tmod]
    decide
  · have hm := ab_tm_pos (a := z) (b := x) (by omega)
    generalize z.tmod x = y at h1 hm
    rw [Int.tmod_eq_emod_of_nonneg hx]
    have hq : 1 ≤ x / y := (Int.le_ediv_iff_mul_le (by omega)).mpr (by omega)
    have hml : y * 1 ≤ y * (x / y) := Int.mul_le_mul_of_nonneg_left hq (by omega)
    have he := Int.mul_ediv_add_emod x y
    have hlt := Int.emod_lt_of_pos x (show 0 < y by omega)
    generalize y * (x / y) = w at hml he
    omega
theorem ab_rhi_ok (hs : ab_Sat ρ G) (ha : ab_oS G.1 a) (hb : ab_oS G.1 b) (q : 1 ≤ ab_sv ρ b) (q1 : 0 ≤ ab_sv ρ a) : (ab_sv ρ a).tmod (ab_sv ρ b) ≤ ab_rhi G a b := by
  have hm := ab_tm_pos (a := ab_sv ρ a) (b := ab_sv ρ b) q
  have i1 := ab_iv_ok hs ha
  have i2 := ab_iv_ok hs hb
  unfold ab_rhi
  cases b with
  | inl c =>
    have e : ab_sv ρ (.inl c) = c := rfl
    rw [e] at hm ⊢
    exact hm.2.1
  | inr j =>
    have i3 : ρ j ≤ (ab_ivI G j).2 := i2.2
    have e : ab_sv ρ (.inr j) = ρ j := rfl
    rw [e] at hm q ⊢
    show _ ≤ (bif ab_ltd G.2.2.2 a j then ab_min ((ab_ivI G j).2 - 1) ((ab_ivS G a).2 / 2) else (ab_ivI G j).2 - 1)
    cases hl : ab_ltd G.2.2.2 a j
    · show _ ≤ (ab_ivI G j).2 - 1
      omega
    · show _ ≤ ab_min ((ab_ivI G j).2 - 1) ((ab_ivS G a).2 / 2)
      obtain ⟨d, d1, d2, d3, d4⟩ := ab_ltd_ok hl
      obtain ⟨-, -, -, d5⟩ := hs.2.2.2 d d1
      rw [d2, d3, d4] at d5
      have d6 : ρ j = (ab_sv ρ d.2.1).tmod (ab_sv ρ a) := d5
      have hh := ab_half (x := ab_sv ρ a) (z := ab_sv ρ d.2.1) q1 (by rw [← d6]; exact q)
      rw [← d6] at hh
      rw [ab_min_eq]
      omega
theorem ab_rem_ok (hs : ab_Sat ρ G) (ha : ab_oS G.1 a) (hb : ab_oS G.1 b) (hx : ab_R k (ab_sv ρ a)) (hy : ab_R k (ab_sv ρ b)) (h : ab_rem k G a b f = true) : ab_sv ρ b ≠ 0 ∧ ab_Y G ρ f (ab_opZ k 4 (ab_sv ρ a) (ab_sv ρ b)) := by
  have e := ab_z_rem hx hy
  have i1 := ab_iv_ok hs ha
  have i2 := ab_iv_ok hs hb
  unfold ab_rem at h
  obtain ⟨q, h⟩ := ab_an h
  have q := (ab_le_iff _ _).mp q
  refine ⟨by omega, ?_⟩
  have hm := ab_tm_pos (a := ab_sv ρ a) (b := ab_sv ρ b) (by omega)
  rcases ab_if h with ⟨q1, h⟩ | ⟨-, h⟩
  · have q1 := (ab_le_iff _ _).mp q1
    refine ab_mk_ok hs ha hb ?_ (ab_opR _ _ _ _) (fun hq => e) h
    show _ ≤ (ab_sv ρ a).tmod (ab_sv ρ b) ∧ (ab_sv ρ a).tmod (ab_sv ρ b) ≤ _
    exact ⟨hm.2.2 (by omega), ab_rhi_ok hs ha hb (by omega) (by omega)⟩
  · refine ab_mk_ok hs ha hb ?_ (ab_opR _ _ _ _) (fun hq => e) h
    show _ ≤ (ab_sv ρ a).tmod (ab_sv ρ b) ∧ (ab_sv ρ a).tmod (ab_sv ρ b) ≤ _
    omega
theorem ab_and_ok (hs : ab_Sat ρ G) (ha : ab_oS G.1 a) (hb : ab_oS G.1 b) (hx : ab_R k (ab_sv ρ a)) (hy : ab_R k (ab_sv ρ b)) (h : ab_and k G a b f = true) : ab_Y G ρ f (ab_opZ k 5 (ab_sv ρ a) (ab_sv ρ b)) := by
  have e := ab_z_and hx hy
  have i1 := ab_iv_ok hs ha
  have i2 := ab_iv_ok hs hb
  unfold ab_and at h
  rcases ab_if h with ⟨q, h⟩ | ⟨-, h⟩
  · have q := (ab_le_iff _ _).mp q
    have := e.1 (by omega)
    exact ab_nw_ok hs ⟨by omega, by omega⟩ (ab_opR _ _ _ _) h
  rcases ab_if h with ⟨q, h⟩ | ⟨-, h⟩
  · have q := (ab_le_iff _ _).mp q
    have := e.2 (by omega)
    exact ab_nw_ok hs ⟨by omega, by omega⟩ (ab_opR _ _ _ _) h
  · exact ab_full_ok hs (ab_opR _ _ _ _) h
theorem ab_xor_ok (hs : ab_Sat ρ G) (ha : ab_oS G.1 a) (hb : ab_oS G.1 b) (hx : ab_R k (ab_sv ρ a)) (hy : ab_R k (ab_sv ρ b)) (h : ab_xor k G a b f = true) : ab_Y G ρ f (ab_opZ k 7 (ab_sv ρ a) (ab_sv ρ b)) := by
  have i1 := ab_iv_ok hs ha
  have i2 := ab_iv_ok hs hb
  unfold ab_xor at h
  rcases ab_if h with ⟨q, h⟩ | ⟨-, h⟩
  · obtain ⟨q1, q2⟩ := ab_an q
    have q1 := (ab_le_iff _ _).mp q1
    have q2 := (ab_le_iff _ _).mp q2
    have := ab_z_xor hx hy (by omega) (by omega)
    have hR := ab_opR k 7 (ab_sv ρ a) (ab_sv ρ b)
    exact ab_nw_ok hs ⟨this, hR.2⟩ hR h
  · exact ab_full_ok hs (ab_opR _ _ _ _) h
theorem ab_shr_ok (hs : ab_Sat ρ G) (ha : ab_oS G.1 a) (hx : ab_R k (ab_sv ρ a)) (y : Int) (h : ab_shr k G a f = true) : ab_Y G ρ f (ab_opZ k 9 (ab_sv ρ a) y) := by
  have i1 := ab_iv_ok hs ha
  unfold ab_shr at h
  rcases ab_if h with ⟨q, h⟩ | ⟨-, h⟩
  · have q := (ab_le_iff _ _).mp q
    have := ab_z_shr (y := y) hx (by omega)
    exact ab_nw_ok hs ⟨by omega, by omega⟩ (ab_opR _ _ _ _) h
  · exact ab_full_ok hs (ab_opR _ _ _ _) h
theorem ab_ar2_ok {op : Nat} (hs : ab_Sat ρ G) (ha : ab_oS G.1 a) (hb : ab_oS G.1 b) (hx : ab_R k (ab_sv ρ a)) (hy : ab_R k (ab_sv ρ b)) (h : ab_ar2 k op G a b f = true) : ((op = 3 ∨ op = 4) → ab_sv ρ b ≠ 0) ∧ ab_Y G ρ f (ab_opZ k op (ab_sv ρ a) (ab_sv ρ b)) := by
  unfold ab_ar2 at h
  rcases ab_if h with ⟨q, h⟩ | ⟨-, h⟩
  · cases ab_beq q
    exact ⟨fun c => by (rcases c with c | c) <;> exact absurd c (by decide), ab_add_ok hs ha hb hx hy h⟩
  rcases ab_if h with ⟨q, h⟩ | ⟨-, h⟩
  · cases ab_beq q
    exact ⟨fun c => by (rcases c with c | c) <;> exact absurd c (by decide), ab_sub_ok hs ha hb hx hy h⟩
  rcases ab_if h with ⟨q, h⟩ | ⟨-, h⟩
  · cases ab_beq q
    exact ⟨fun c => by (rcases c with c | c) <;> exact absurd c (by decide), ab_mul_ok hs ha hb hx hy h⟩
  rcases ab_if h with ⟨q, h⟩ | ⟨q3, h⟩
  · cases ab_beq q
    have := ab_div_ok hs ha hb hx hy h
    exact ⟨fun _ => this.1, this.2⟩
  rcases ab_if h with ⟨q, h⟩ | ⟨q4, h⟩
  · cases ab_beq q
    have := ab_rem_ok hs ha hb hx hy h
    exact ⟨fun _ => this.1, this.2⟩
  refine ⟨fun c => ?_, ?_⟩
  · rcases c with c | c
    · subst c; cases q3
    · subst c; cases q4
  rcases ab_if h with ⟨q, h⟩ | ⟨-, h⟩
  · cases ab_beq q
    exact ab_and_ok hs ha hb hx hy h
  rcases ab_if h with ⟨q, h⟩ | ⟨-, h⟩
  · cases ab_beq q
    exact ab_xor_ok hs ha hb hx hy h
  rcases ab_if h with ⟨q, h⟩ | ⟨-, h⟩
  · cases ab_beq q
    exact ab_shr_ok hs ha hx _ h
  · exact ab_full_ok hs (ab_opR _ _ _ _) h
theorem ab_ar_ok {op : Nat} (hs : ab_Sat ρ G) (ha : ab_oS G.1 a) (hb : ab_oS G.1 b) (hx : ab_R k (ab_sv ρ a)) (hy : ab_R k (ab_sv ρ b)) (h : ab_ar k op G a b f = true) : ((op = 3 ∨ op = 4) → ab_sv ρ b ≠ 0) ∧ ab_Y G ρ f (ab_opZ k op (ab_sv ρ a) (ab_sv ρ b)) := by
  obtain ⟨a1, a2⟩ := ab_nm_ok hs ha
  obtain ⟨b1, b2⟩ := ab_nm_ok hs hb
  unfold ab_ar at h
  rw [← a2, ← b2]
  rw [← a2] at hx
  rw [← b2] at hy
  generalize ab_nm G a = a' at *
  generalize ab_nm G b = b' at *
  cases a' with
  | inl x =>
    cases b' with
    | inl y =>
      rcases ab_if h with ⟨-, h⟩ | ⟨q, h⟩
      · cases h
      · refine ⟨fun c h0 => ?_, ab_Y.old hs (s := .inl _) trivial ?_ h⟩
        · have h0 : y = 0 := h0
          rw [h0, show ab_eq 0 0 = true from rfl] at q
          rcases c with c | c <;> (subst c; cases q)
        · exact ab_co_eq hx hy
    | inr j => exact ab_ar2_ok hs (a := .inl x) (b := .inr j) trivial b1 hx hy h
  | inr i =>
    cases b' with
    | inl y => exact ab_ar2_ok hs (a := .inr i) (b := .inl y) a1 trivial hx hy h
    | inr j => exact ab_ar2_ok hs (a := .inr i) (b := .inr j) a1 b1 hx hy h
end Ar
end
section
/-! BRANCHES: what a condition leaves. -/
theorem ab_h0 (x y : Int) : ab_hold 0 x y = true ↔ x = y := ab_eq_iff x y
theorem ab_h1 (x y : Int) : ab_hold 1 x y = true ↔ x ≠ y := by
  show (bif ab_eq x y then false else true) = true ↔ _
  cases h : ab_eq x y
  · exact ⟨fun _ => ab_neq h, fun _ => rfl⟩
  · exact ⟨fun q => (by cases q), fun q => absurd ((ab_eq_iff x y).mp h) q⟩
theorem ab_h2 (x y : Int) : ab_hold 2 x y = true ↔ x < y := by
  show (bif ab_le y x then false else true) = true ↔ _
  cases h : ab_le y x
  · exact ⟨fun _ => ab_nle h, fun _ => rfl⟩
  · have := (ab_le_iff y x).mp h
    exact ⟨fun q => (by cases q), fun q => by omega⟩
theorem ab_h3 (x y : Int) : ab_hold 3 x y = true ↔ y ≤ x := ab_le_iff y x
theorem ab_h4 (x y : Int) : ab_hold 4 x y = true ↔ y < x := by
  show (bif ab_le x y then false else true) = true ↔ _
  cases h : ab_le x y
  · exact ⟨fun _ => ab_nle h, fun _ => rfl⟩
  · have := (ab_le_iff x y).mp h
    exact ⟨fun q => (by cases q), fun q => by omega⟩
theorem ab_h5 (x y : Int) : ab_hold 5 x y = true ↔ x ≤ y := ab_le_iff x y
theorem ab_c5 {P : Nat → Prop} (h0 : P 0) (h1 : P 1) (h2 : P 2) (h3 : P 3) (h4 : P 4) (h5 : P 5) {c : Nat} (h : c ≤ 5) : P c := by
  match c, h with
  | 0, _ => exact h0
  | 1, _ => exact h1
  | 2, _ => exact h2
  | 3, _ => exact h3
  | 4, _ => exact h4
  | 5, _ => exact h5
  | n + 6, h => omega
theorem ab_hng {c : Nat} (h : c ≤ 5) (x y : Int) : ab_ng c ≤ 5 ∧ (ab_hold (ab_ng c) x y = true ↔ ¬ ab_hold c x y = true) := by
  refine ab_c5 (P := fun c => ab_ng c ≤ 5 ∧ (ab_hold (ab_ng c) x y = true ↔ ¬ ab_hold c x y = true)) ?_ ?_ ?_ ?_ ?_ ?_ h
  · exact ⟨by decide, by rw [show ab_ng 0 = 1 from rfl, ab_h0, ab_h1]⟩
  · exact ⟨by decide, by rw [show ab_ng 1 = 0 from rfl, ab_h0, ab_h1]; omega⟩
  · exact ⟨by decide, by rw [show ab_ng 2 = 3 from rfl, ab_h2, ab_h3]; omega⟩
  · exact ⟨by decide, by rw [show ab_ng 3 = 2 from rfl, ab_h2, ab_h3]; omega⟩
  · exact ⟨by decide, by rw [show ab_ng 4 = 5 from rfl, ab_h4, ab_h5]; omega⟩
  · exact ⟨by decide, by rw [show ab_ng 5 = 4 from rfl, ab_h4, ab_h5]; omega⟩
theorem ab_hfl {c : Nat} (h : c ≤ 5) (x y : Int) : ab_fl c ≤ 5 ∧ (ab_hold (ab_fl c) x y = true ↔ ab_hold c y x = true) := by
  refine ab_c5 (P := fun c => ab_fl c ≤ 5 ∧ (ab_hold (ab_fl c) x y = true ↔ ab_hold c y x = true)) ?_ ?_ ?_ ?_ ?_ ?_ h
  · exact ⟨by decide, by rw [show ab_fl 0 = 0 from rfl, ab_h0, ab_h0]; omega⟩
  · exact ⟨by decide, by rw [show ab_fl 1 = 1 from rfl, ab_h1, ab_h1]; omega⟩
  · exact ⟨by decide, by rw [show ab_fl 2 = 4 from rfl, ab_h4, ab_h2]⟩
  · exact ⟨by decide, by rw [show ab_fl 3 = 5 from rfl, ab_h5, ab_h3]⟩
  · exact ⟨by decide, by rw [show ab_fl 4 = 2 from rfl, ab_h4, ab_h2]⟩
  · exact ⟨by decide, by rw [show ab_fl 5 = 3 from rfl, ab_h5, ab_h3]⟩
theorem ab_im_all : ∀ c1 c2 : Fin 6, ab_im c1.val c2.val = true → c1.val = c2.val ∨ (c1.val = 0 ∧ (c2.val = 3 ∨ c2.val = 5)) ∨ (c1.val = 2 ∧ (c2.val = 5 ∨ c2.val = 1)) ∨ (c1.val = 4 ∧ (c2.val = 3 ∨ c2.val = 1)) := by decide +kernel
theorem ab_him {c1 c2 : Nat} (h1 : c1 ≤ 5) (h2 : c2 ≤ 5) (h : ab_im c1 c2 = true) {x y : Int} (hx : ab_hold c1 x y = true) : ab_hold c2 x y = true := by
  rcases ab_im_all ⟨c1, Nat.lt_succ_of_le h1⟩ ⟨c2, Nat.lt_succ_of_le h2⟩ h with rfl | ⟨rfl, rfl | rfl⟩ | ⟨rfl, rfl | rfl⟩ | ⟨rfl, rfl | rfl⟩
  · exact hx
  · rw [ab_h0] at hx; rw [ab_h3]; omega
  · rw [ab_h0] at hx; rw [ab_h5]; omega
  · rw [ab_h2] at hx; rw [ab_h5]; omega
  · rw [ab_h2] at hx; rw [ab_h1]; omega
  · rw [ab_h4] at hx; rw [ab_h3]; omega
  · rw [ab_h4] at hx; rw [ab_h1]; omega
theorem ab_bool {b : Bool} (h : ¬ b = true) : b = false := by
  cases b
  · rfl
  · exact absurd rfl h
theorem ab_say {c d : Nat} (hc : c ≤ 5) (hd : d ≤ 5) {x y : Int} (hx : ab_hold d x y = true) {t : Bool} {r : Option Bool} (hr : r = some t → ab_hold c x y = t)
    (h : (bif ab_im d c then some true else bif ab_im d (ab_ng c) then some false else r) = some t) : ab_hold c x y = t := by
  cases h1 : ab_im d c
  · rw [h1] at h
    cases h2 : ab_im d (ab_ng c)
    · rw [h2] at h
      exact hr h
    · rw [h2] at h
      cases h
      obtain ⟨h3, h4⟩ := ab_hng hc x y
      exact ab_bool (h4.mp (ab_him hd h3 h2 hx))
  · rw [h1] at h
    cases h
    exact ab_him hd hc h1 hx
theorem ab_known_ok {ρ : Nat → Int} {c : Nat} (hc : c ≤ 5) {a b : ab_S} {t : Bool} : ∀ {l : List ab_F}, (∀ f ∈ l, f.1 ≤ 5 ∧ ab_hold f.1 (ab_sv ρ f.2.1) (ab_sv ρ f.2.2) = true) → ab_known c a b l = some t → ab_hold c (ab_sv ρ a) (ab_sv ρ b) = t
  | [], _, h => by cases h
  | d :: l, hl, h => by
    have ih := ab_known_ok (t := t) hc (a := a) (b := b) (l := l) (fun f hf => hl f (List.mem_cons_of_mem _ hf))
    obtain ⟨d1, d2⟩ := hl d List.mem_cons_self
    have h2 : (bif (bif ab_seq d.2.1 a then ab_seq d.2.2 b else false) then (bif ab_im d.1 c then some true else bif ab_im d.1 (ab_ng c) then some false else ab_known c a b l) else
      bif (bif ab_seq d.2.1 b then ab_seq d.2.2 a else false) then (bif ab_im (ab_fl d.1) c then some true else bif ab_im (ab_fl d.1) (ab_ng c) then some false else ab_known c a b l) else ab_known c a b l) = some t := h
    cases q1 : (bif ab_seq d.2.1 a then ab_seq d.2.2 b else false)
    · rw [q1] at h2
      cases q2 : (bif ab_seq d.2.1 b then ab_seq d.2.2 a else false)
      · rw [q2] at h2
        exact ih h2
      · rw [q2] at h2
        obtain ⟨e1, e2⟩ := ab_an q2
        have e1 := ab_seq_iff e1
        have e2 := ab_seq_iff e2
        rw [e1, e2] at d2
        obtain ⟨f1, f2⟩ := ab_hfl d1 (ab_sv ρ a) (ab_sv ρ b)
        exact ab_say hc f1 (f2.mpr d2) ih h2
    · rw [q1] at h2
      obtain ⟨e1, e2⟩ := ab_an q1
      have e1 := ab_seq_iff e1
      have e2 := ab_seq_iff e2
      rw [e1, e2] at d2
      exact ab_say hc d1 d2 ih h2
theorem ab_cut_ok {ρ : Nat → Int} {G : ab_G} (hs : ab_Sat ρ G) {i : Nat} (hi : i < G.1) {p q : Int} (hp : p ≤ ρ i ∧ ρ i ≤ q) : ab_Sat ρ (G.1, (i, (p, q)) :: G.2.1, G.2.2) := by
  refine ⟨?_, ?_, hs.2.2.1, hs.2.2.2⟩
  · intro j r hr
    by_cases e : j = i
    · subst e
      rw [ab_lk_self] at hr
      cases hr
      exact ⟨hi, hp⟩
    · rw [ab_lk_ne _ _ (fun q => e q.symm)] at hr
      exact hs.1 j r hr
  · intro j hj
    by_cases e : j = i
    · subst e
      exact ⟨_, ab_lk_self _ _ _⟩
    · obtain ⟨r, hr⟩ := hs.2.1 j hj
      exact ⟨r, by rw [ab_lk_ne _ _ (fun q => e q.symm)]; exact hr⟩
theorem ab_fact_ok {ρ : Nat → Int} {G : ab_G} (hs : ab_Sat ρ G) {c : Nat} {a b : ab_S} (hc : c ≤ 5) (ha : ab_oS G.1 a) (hb : ab_oS G.1 b) (h : ab_hold c (ab_sv ρ a) (ab_sv ρ b) = true) : ab_Sat ρ (G.1, G.2.1, (c, a, b) :: G.2.2.1, G.2.2.2) := by
  refine ⟨hs.1, hs.2.1, ?_, hs.2.2.2⟩
  intro f hf
  rcases List.mem_cons.mp hf with rfl | hf
  · exact ⟨ha, hb, hc, h⟩
  · exact hs.2.2.1 f hf
def ab_Z (G : ab_G) (ρ : Nat → Int) (f : ab_G → Bool) : Prop := ∃ G', f G' = true ∧ ab_Sat ρ G' ∧ G'.1 = G.1
theorem ab_ct_ok {ρ : Nat → Int} {G : ab_G} (hs : ab_Sat ρ G) {a : ab_S} (ha : ab_oS G.1 a) {p q : Int} (hp : p ≤ ab_sv ρ a ∧ ab_sv ρ a ≤ q) : ab_Sat ρ (ab_ct G a p q) ∧ (ab_ct G a p q).1 = G.1 := by
  cases a with
  | inl c => exact ⟨hs, rfl⟩
  | inr i => exact ⟨ab_cut_ok hs ha hp, rfl⟩
theorem ab_one_ok {ρ : Nat → Int} {G : ab_G} (hs : ab_Sat ρ G) {c : Nat} {a b : ab_S} (hc : c ≤ 5) (ha : ab_oS G.1 a) (hb : ab_oS G.1 b) (hv : ∀ x y, a = .inl x → b = .inl y → False) (hh : ab_hold c (ab_sv ρ a) (ab_sv ρ b) = true) {p1 q1 p2 q2 : Int}
    (h1 : p1 ≤ ab_sv ρ a ∧ ab_sv ρ a ≤ q1) (h2 : p2 ≤ ab_sv ρ b ∧ ab_sv ρ b ≤ q2) {f : ab_G → Bool} (h : ab_one c a b p1 q1 p2 q2 G f = true) : ab_Z G ρ f := by
  unfold ab_one at h
  have e : (bif ab_le p1 q1 then ab_le p2 q2 else false) = true := by
    rw [(ab_le_iff p1 q1).mpr (by omega), (ab_le_iff p2 q2).mpr (by omega)]; rfl
  rw [e] at h
  cases a with
  | inl x =>
    cases b with
    | inl y => exact (hv x y rfl rfl).elim
    | inr j => exact ⟨_, h, ab_cut_ok hs hb h2, rfl⟩
  | inr i =>
    cases b with
    | inl y => exact ⟨_, h, ab_cut_ok hs ha h1, rfl⟩
    | inr j =>
      have s1 := ab_cut_ok hs hb h2
      have s2 := ab_cut_ok s1 ha h1
      exact ⟨_, h, ab_fact_ok s2 hc ha hb hh, rfl⟩
theorem ab_side_ok {ρ : Nat → Int} {G : ab_G} (hs : ab_Sat ρ G) {c : Nat} {a b : ab_S} (hc : c ≤ 5) (ha : ab_oS G.1 a) (hb : ab_oS G.1 b) (hv : ∀ x y, a = .inl x → b = .inl y → False) (hh : ab_hold c (ab_sv ρ a) (ab_sv ρ b) = true)
    {f : ab_G → Bool} (h : ab_side c a b (ab_ivS G a) (ab_ivS G b) G f = true) : ab_Z G ρ f := by
  have i1 := ab_iv_ok hs ha
  have i2 := ab_iv_ok hs hb
  unfold ab_side at h
  rw [ab_max_eq, ab_max_eq, ab_max_eq, ab_max_eq, ab_min_eq, ab_min_eq, ab_min_eq, ab_min_eq] at h
  rcases ab_if h with ⟨e, g⟩ | ⟨e0, g⟩
  · cases ab_beq e
    have q := (ab_h0 _ _).mp hh
    exact ab_one_ok hs (by decide) ha hb hv hh (by omega) (by omega) g
  rcases ab_if g with ⟨e, g⟩ | ⟨e2, g⟩
  · cases ab_beq e
    have q := (ab_h2 _ _).mp hh
    exact ab_one_ok hs (by decide) ha hb hv hh (by omega) (by omega) g
  rcases ab_if g with ⟨e, g⟩ | ⟨e3, g⟩
  · cases ab_beq e
    have q := (ab_h3 _ _).mp hh
    exact ab_one_ok hs (by decide) ha hb hv hh (by omega) (by omega) g
  rcases ab_if g with ⟨e, g⟩ | ⟨e4, g⟩
  · cases ab_beq e
    have q := (ab_h4 _ _).mp hh
    exact ab_one_ok hs (by decide) ha hb hv hh (by omega) (by omega) g
  rcases ab_if g with ⟨e, g⟩ | ⟨e5, g⟩
  · cases ab_beq e
    have q := (ab_h5 _ _).mp hh
    exact ab_one_ok hs (by decide) ha hb hv hh (by omega) (by omega) g
  have hc1 : c = 1 := by
    revert e0 e2 e3 e4 e5
    refine ab_c5 (P := fun c => Nat.beq c 0 = false → Nat.beq c 2 = false → Nat.beq c 3 = false → Nat.beq c 4 = false → Nat.beq c 5 = false → c = 1) ?_ ?_ ?_ ?_ ?_ ?_ hc
    all_goals intro a1 a2 a3 a4 a5
    all_goals first | rfl | (cases a1; done) | (cases a2; done) | (cases a3; done) | (cases a4; done) | (cases a5; done)
  subst hc1
  have q := (ab_h1 _ _).mp hh
  have two : ∀ {a b : ab_S}, ab_oS G.1 a → ab_oS G.1 b → (∀ x y, a = .inl x → b = .inl y → False) → ab_sv ρ a ≠ ab_sv ρ b → (ab_ivS G a).1 ≤ ab_sv ρ a ∧ ab_sv ρ a ≤ (ab_ivS G a).2 → (ab_ivS G b).1 ≤ ab_sv ρ b ∧ ab_sv ρ b ≤ (ab_ivS G b).2 →
      (bif ab_one 2 a b (ab_ivS G a).1 (min (ab_ivS G a).2 ((ab_ivS G b).2 - 1)) (max (ab_ivS G b).1 ((ab_ivS G a).1 + 1)) (ab_ivS G b).2 G f then ab_one 4 a b (max (ab_ivS G a).1 ((ab_ivS G b).1 + 1)) (ab_ivS G a).2 (ab_ivS G b).1 (min (ab_ivS G b).2 ((ab_ivS G a).2 - 1)) G f else false) = true → ab_Z G ρ f := by
    intro a b ha hb hv q i1 i2 h
    obtain ⟨g1, g2⟩ := ab_an h
    rcases Int.lt_or_gt_of_ne q with l | l
    · exact ab_one_ok hs (c := 2) (by decide) ha hb hv ((ab_h2 _ _).mpr l) (by omega) (by omega) g1
    · exact ab_one_ok hs (c := 4) (by decide) ha hb hv ((ab_h4 _ _).mpr l) (by omega) (by omega) g2
  cases a with
  | inl x =>
    cases b with
    | inl y => exact (hv x y rfl rfl).elim
    | inr j => exact two ha hb hv q i1 i2 g
  | inr i =>
    cases b with
    | inl y => exact two ha hb hv q i1 i2 g
    | inr j => exact ⟨_, g, ab_fact_ok hs (by decide) ha hb hh, rfl⟩
theorem ab_br2_ok {ρ : Nat → Int} {G : ab_G} (hs : ab_Sat ρ G) {c : Nat} {a b : ab_S} (hc : c ≤ 5) (ha : ab_oS G.1 a) (hb : ab_oS G.1 b) (hv : ∀ x y, a = .inl x → b = .inl y → False) {f : Bool → ab_G → Bool}
    (h : ab_br2 c a b G f = true) : ab_Z G ρ (f (ab_hold c (ab_sv ρ a) (ab_sv ρ b))) := by
  unfold ab_br2 at h
  rcases ab_if h with ⟨e, g⟩ | ⟨-, g⟩
  · have e := ab_seq_iff e
    have e2 : ab_hold c (ab_sv ρ a) (ab_sv ρ b) = ab_hold c 0 0 := by
      rw [e]
      refine ab_c5 (P := fun c => ab_hold c (ab_sv ρ b) (ab_sv ρ b) = ab_hold c 0 0) ?_ ?_ ?_ ?_ ?_ ?_ hc
      · exact ((ab_h0 _ _).mpr rfl).trans ((ab_h0 _ _).mpr rfl).symm
      · exact (ab_bool (fun q => (ab_h1 _ _).mp q rfl)).trans (ab_bool (fun q => (ab_h1 _ _).mp q rfl)).symm
      · exact (ab_bool (fun q => Int.lt_irrefl _ ((ab_h2 _ _).mp q))).trans (ab_bool (fun q => Int.lt_irrefl _ ((ab_h2 _ _).mp q))).symm
      · exact ((ab_h3 _ _).mpr (Int.le_refl _)).trans ((ab_h3 _ _).mpr (Int.le_refl _)).symm
      · exact (ab_bool (fun q => Int.lt_irrefl _ ((ab_h4 _ _).mp q))).trans (ab_bool (fun q => Int.lt_irrefl _ ((ab_h4 _ _).mp q))).symm
      · exact ((ab_h5 _ _).mpr (Int.le_refl _)).trans ((ab_h5 _ _).mpr (Int.le_refl _)).symm
    rw [e2]
    exact ⟨G, g, hs, rfl⟩
  split at g
  · rename_i t ht
    have := ab_known_ok (ρ := ρ) hc (fun f hf => (hs.2.2.1 f hf).2.2) ht
    rw [this]
    exact ⟨G, g, hs, rfl⟩
  · obtain ⟨g1, g2⟩ := ab_an g
    cases hh : ab_hold c (ab_sv ρ a) (ab_sv ρ b)
    · obtain ⟨n1, n2⟩ := ab_hng hc (ab_sv ρ a) (ab_sv ρ b)
      exact ab_side_ok hs n1 ha hb hv (n2.mpr (by rw [hh]; decide)) g2
    · exact ab_side_ok hs hc ha hb hv hh g1
theorem ab_br_ok {ρ : Nat → Int} {G : ab_G} (hs : ab_Sat ρ G) {c : Nat} {a b : ab_S} (hc : c ≤ 5) (ha : ab_oS G.1 a) (hb : ab_oS G.1 b) {f : Bool → ab_G → Bool}
    (h : ab_br c a b G f = true) : ab_Z G ρ (f (ab_hold c (ab_sv ρ a) (ab_sv ρ b))) := by
  obtain ⟨a1, a2⟩ := ab_nm_ok hs ha
  obtain ⟨b1, b2⟩ := ab_nm_ok hs hb
  unfold ab_br at h
  rw [← a2, ← b2]
  generalize ab_nm G a = a' at *
  generalize ab_nm G b = b' at *
  cases a' with
  | inl x =>
    cases b' with
    | inl y => exact ⟨G, h, hs, rfl⟩
    | inr j => exact ab_br2_ok hs hc (a := .inl x) (b := .inr j) trivial b1 (fun _ _ _ q => (by cases q)) h
  | inr i =>
    cases b' with
    | inl y => exact ab_br2_ok hs hc (a := .inr i) (b := .inl y) a1 trivial (fun _ _ q _ => (by cases q)) h
    | inr j => exact ab_br2_ok hs hc (a := .inr i) (b := .inr j) a1 b1 (fun _ _ q _ => (by cases q)) h
/-- all values one by one -/
theorem ab_spl_ok {f : Int → Bool} {lo : Int} : ∀ {n : Nat}, ab_spl f lo n = true → ∀ z, lo ≤ z → z < lo + n → f z = true
  | 0, _, z, h1, h2 => by omega
  | n + 1, h, z, h1, h2 => by
    have h3 : (bif f (lo + .ofNat n) then ab_spl f lo n else false) = true := h
    obtain ⟨h4, h5⟩ := ab_an h3
    by_cases e : z = lo + n
    · rw [e]; exact h4
    · exact ab_spl_ok h5 z h1 (by omega)
end
section
/-! WHAT A STATE OF THE WALKER SAYS of the machine's values, locals, stack and heap. -/
/-- the script's row is cell 0, all others are new ones, one behind another -/
def ab_ad (b B : Nat) (c : Nat) : Nat := match c with
  | 0 => b
  | k + 1 => B + k
theorem ab_ad_inj {b B : Nat} (h : b < B) {c d : Nat} (e : ab_ad b B c = ab_ad b B d) : c = d := by
  cases c <;> cases d <;> simp only [ab_ad] at e <;> omega
def ab_RV (b B n : Nat) (ρ : Nat → Int) : ab_V → Value → Prop
  | .inl (.inl s), x => x = .int (Int32.ofInt (ab_sv ρ s)) ∧ ab_R 0 (ab_sv ρ s) ∧ ab_oS n s
  | .inl (.inr s), x => x = .long (Int64.ofInt (ab_sv ρ s)) ∧ ab_R 1 (ab_sv ρ s) ∧ ab_oS n s
  | .inr (.inl c), x => x = .ref (ab_ad b B c)
  | .inr (.inr t), x => (t = 0 ∧ x = .null) ∨ (t = 1 ∧ ∃ z : Int32, x = .double (FP.i2d z)) ∨ (t = 2 ∧ ∃ a, x = .ref a) ∨ (t = 3 ∧ x = .double 0x4020000000000000) ∨ (t = 4 ∧ ∃ d, x = .double d)
theorem ab_RV.ext {b B n n' : Nat} {ρ ρ' : Nat → Int} (hE : ab_Ext n ρ n' ρ') {v : ab_V} {x : Value} (h : ab_RV b B n ρ v x) : ab_RV b B n' ρ' v x := by
  match v, h with
  | .inl (.inl s), ⟨h1, h2, h3⟩ => exact ⟨by rw [hE.sv h3]; exact h1, by rw [hE.sv h3]; exact h2, hE.oS h3⟩
  | .inl (.inr s), ⟨h1, h2, h3⟩ => exact ⟨by rw [hE.sv h3]; exact h1, by rw [hE.sv h3]; exact h2, hE.oS h3⟩
  | .inr (.inl c), h => exact h
  | .inr (.inr t), h => exact h
theorem ab_RV.cat {b B n : Nat} {ρ : Nat → Int} {v : ab_V} {x : Value} (h : ab_RV b B n ρ v x) : x.category = bif ab_wide v then 2 else 1 := by
  match v, h with
  | .inl (.inl s), ⟨h1, _, _⟩ => rw [h1]; rfl
  | .inl (.inr s), ⟨h1, _, _⟩ => rw [h1]; rfl
  | .inr (.inl c), h => rw [show x = _ from h]; rfl
  | .inr (.inr t), h =>
    rcases h with ⟨rfl, rfl⟩ | ⟨rfl, z, rfl⟩ | ⟨rfl, a, rfl⟩ | ⟨rfl, rfl⟩ | ⟨rfl, d, rfl⟩ <;> rfl
/-- the same value under its simpler name -/
theorem ab_RV.nm {b B : Nat} {ρ : Nat → Int} {G : ab_G} (hs : ab_Sat ρ G) {v : ab_V} {x : Value} (h : ab_RV b B G.1 ρ v x) : ab_RV b B G.1 ρ (ab_nmV G v) x := by
  match v, h with
  | .inl (.inl s), ⟨h1, h2, h3⟩ =>
    obtain ⟨a1, a2⟩ := ab_nm_ok hs h3
    exact ⟨by rw [a2]; exact h1, by rw [a2]; exact h2, a1⟩
  | .inl (.inr s), ⟨h1, h2, h3⟩ =>
    obtain ⟨a1, a2⟩ := ab_nm_ok hs h3
    exact ⟨by rw [a2]; exact h1, by rw [a2]; exact h2, a1⟩
  | .inr (.inl c), h => exact h
  | .inr (.inr t), h => exact h
theorem ab_veq_iff {v w : ab_V} (h : ab_veq v w = true) : v = w := by
  match v, w, h with
  | .inl (.inl a), .inl (.inl c), h => rw [ab_seq_iff h]
  | .inl (.inr a), .inl (.inr c), h => rw [ab_seq_iff h]
  | .inr (.inl a), .inr (.inl c), h => rw [show a = c from ab_beq h]
  | .inr (.inr a), .inr (.inr c), h =>
    obtain ⟨h1, h2⟩ := ab_an h
    rw [show a = 0 from ab_beq h1, show c = 0 from ab_beq h2]
  | .inl (.inl _), .inl (.inr _), h => cases h
  | .inl (.inr _), .inl (.inl _), h => cases h
  | .inr (.inl _), .inr (.inr _), h => cases h
  | .inr (.inr _), .inr (.inl _), h => cases h
  | .inl (.inl _), .inr _, h => cases h
  | .inl (.inr _), .inr _, h => cases h
  | .inr (.inl _), .inl _, h => cases h
  | .inr (.inr _), .inl _, h => cases h
/-- the stack -/
def ab_RS (b B n : Nat) (ρ : Nat → Int) : List ab_V → List Value → Prop
  | [], [] => True
  | v :: S, x :: st => ab_RV b B n ρ v x ∧ ab_RS b B n ρ S st
  | _, _ => False
theorem ab_RS.nil {b B n : Nat} {ρ : Nat → Int} {st : List Value} (h : ab_RS b B n ρ [] st) : st = [] := by
  cases st with
  | nil => rfl
  | cons x t => exact h.elim
theorem ab_RS.cons {b B n : Nat} {ρ : Nat → Int} {v : ab_V} {S : List ab_V} {st : List Value} (h : ab_RS b B n ρ (v :: S) st) : ∃ x t, st = x :: t ∧ ab_RV b B n ρ v x ∧ ab_RS b B n ρ S t := by
  cases st with
  | nil => exact h.elim
  | cons x t => exact ⟨x, t, rfl, h.1, h.2⟩
theorem ab_RS.ext {b B n n' : Nat} {ρ ρ' : Nat → Int} (hE : ab_Ext n ρ n' ρ') : ∀ {S : List ab_V} {st : List Value}, ab_RS b B n ρ S st → ab_RS b B n' ρ' S st
  | [], [], _ => trivial
  | v :: S, x :: st, h => ⟨h.1.ext hE, ab_RS.ext hE h.2⟩
  | [], _ :: _, h => h.elim
  | _ :: _, [], h => h.elim
theorem ab_RS.app {b B n : Nat} {ρ : Nat → Int} : ∀ {S T : List ab_V} {s t : List Value}, ab_RS b B n ρ S s → ab_RS b B n ρ T t → ab_RS b B n ρ (S ++ T) (s ++ t)
  | [], T, [], t, _, h2 => h2
  | v :: S, T, x :: s, t, h, h2 => ⟨h.1, ab_RS.app h.2 h2⟩
  | [], _, _ :: _, _, h, _ => h.elim
  | _ :: _, _, [], _, h, _ => h.elim
theorem ab_RS.len {b B n : Nat} {ρ : Nat → Int} : ∀ {S : List ab_V} {st : List Value}, ab_RS b B n ρ S st → st.length = S.length
  | [], [], _ => rfl
  | v :: S, x :: st, h => congrArg (· + 1) (ab_RS.len h.2)
  | [], _ :: _, h => h.elim
  | _ :: _, [], h => h.elim
theorem ab_RS.words {b B n : Nat} {ρ : Nat → Int} : ∀ {S : List ab_V} {st : List Value}, ab_RS b B n ρ S st → (st.map fun v => v.category).sum ≤ 2 * S.length
  | [], [], _ => Nat.le_refl _
  | v :: S, x :: st, h => by
    have h1 := ab_RS.words h.2
    have h2 := h.1.cat
    have h3 : x.category ≤ 2 := by rw [h2]; cases ab_wide v <;> decide
    simp only [List.map_cons, List.sum_cons, List.length_cons]
    omega
  | [], _ :: _, h => h.elim
  | _ :: _, [], h => h.elim
/-- the locals, as the kit lists them -/
def ab_R2 (b B n : Nat) (ρ : Nat → Int) : ab_L → List (Nat × Value) → Prop
  | [], [] => True
  | q :: L, x :: l => q.1 = x.1 ∧ ab_RV b B n ρ q.2 x.2 ∧ ab_R2 b B n ρ L l
  | _, _ => False
theorem ab_R2.ext {b B n n' : Nat} {ρ ρ' : Nat → Int} (hE : ab_Ext n ρ n' ρ') : ∀ {S : ab_L} {st : List (Nat × Value)}, ab_R2 b B n ρ S st → ab_R2 b B n' ρ' S st
  | [], [], _ => trivial
  | v :: S, x :: st, h => ⟨h.1, h.2.1.ext hE, ab_R2.ext hE h.2.2⟩
  | [], _ :: _, h => h.elim
  | _ :: _, [], h => h.elim
theorem ab_R2.get {b B n : Nat} {ρ : Nat → Int} {i : Nat} {v : ab_V} : ∀ {L : ab_L} {l : List (Nat × Value)}, ab_R2 b B n ρ L l → ab_lk L i = some v → ∃ x, (i, x) ∈ l ∧ ab_RV b B n ρ v x
  | [], [], _, h => by cases h
  | q :: L, y :: l, h, hl => by
    obtain ⟨j, w⟩ := q
    obtain ⟨j2, y⟩ := y
    have e : j = j2 := h.1
    subst e
    rw [ab_lk_cons] at hl
    cases hb : Nat.beq j i
    · rw [hb] at hl
      obtain ⟨x, h1, h2⟩ := ab_R2.get h.2.2 hl
      exact ⟨x, List.mem_cons_of_mem _ h1, h2⟩
    · rw [hb] at hl
      cases hl
      rw [← show j = i from ab_beq hb]
      exact ⟨y, List.mem_cons_self, h.2.1⟩
  | [], _ :: _, h, _ => h.elim
  | _ :: _, [], h, _ => h.elim
noncomputable def ab_keep (i : Nat) (v : ab_V) (q : Nat × ab_V) : Bool := bif (bif Nat.beq q.1 i then true else bif (bif Nat.beq (q.1 + 1) i then ab_wide q.2 else false) then true else bif ab_wide v then Nat.beq q.1 (i + 1) else false) then false else true
theorem ab_sto_eq (i : Nat) (v : ab_V) (L : ab_L) : ab_sto i v L = (i, v) :: L.filter (ab_keep i v) := by
  unfold ab_sto
  congr 1
  induction L with
  | nil => rfl
  | cons q L ih =>
    rw [List.filter_cons]
    show (bif (bif Nat.beq q.1 i then true else bif (bif Nat.beq (q.1 + 1) i then ab_wide q.2 else false) then true else bif ab_wide v then Nat.beq q.1 (i + 1) else false) then _ else q :: _) = _
    rw [ih]
    unfold ab_keep
    cases (bif Nat.beq q.1 i then true else bif (bif Nat.beq (q.1 + 1) i then ab_wide q.2 else false) then true else bif ab_wide v then Nat.beq q.1 (i + 1) else false) <;> rfl
theorem ab_R2.filter {b B n : Nat} {ρ : Nat → Int} {p : Nat × ab_V → Bool} {p' : Nat × Value → Bool} (hp : ∀ i v x, ab_RV b B n ρ v x → p (i, v) = p' (i, x)) : ∀ {L : ab_L} {l : List (Nat × Value)}, ab_R2 b B n ρ L l → ab_R2 b B n ρ (L.filter p) (l.filter p')
  | [], [], _ => trivial
  | q :: L, y :: l, h => by
    obtain ⟨j, w⟩ := q
    obtain ⟨j2, y⟩ := y
    have e : j = j2 := h.1
    subst e
    have e2 := hp j w y h.2.1
    rw [List.filter_cons, List.filter_cons, ← e2]
    have ih := ab_R2.filter hp h.2.2
    cases p (j, w)
    · exact ih
    · exact ⟨rfl, h.2.1, ih⟩
  | [], _ :: _, h => h.elim
  | _ :: _, [], h => h.elim
theorem ab_beq_eq (a c : Nat) : Nat.beq a c = (a == c) := by
  cases h : Nat.beq a c
  · exact (beq_false_of_ne (Nat.ne_of_beq_eq_false h)).symm
  · rw [ab_beq h]
    exact (beq_self_eq_true c).symm
/-- a store of one slot -/
theorem ab_R2.sto1 {b B n : Nat} {ρ : Nat → Int} {L : ab_L} {l : List (Nat × Value)} (h : ab_R2 b B n ρ L l) {i : Nat} {v : ab_V} {x : Value} (hv : ab_RV b B n ρ v x) (hw : ab_wide v = false) :
    ab_R2 b B n ρ (ab_sto i v L) ((i, x) :: l.filter (fun q => !(q.1 == i) && !(q.1 + 1 == i && q.2.category == 2))) := by
  rw [ab_sto_eq]
  refine ⟨rfl, hv, ab_R2.filter (fun j w y hy => ?_) h⟩
  unfold ab_keep
  rw [hw, hy.cat]
  dsimp only
  rw [ab_beq_eq, ab_beq_eq]
  cases j == i <;> cases j + 1 == i <;> cases ab_wide w <;> rfl
/-- a store of two -/
theorem ab_R2.sto2 {b B n : Nat} {ρ : Nat → Int} {L : ab_L} {l : List (Nat × Value)} (h : ab_R2 b B n ρ L l) {i : Nat} {v : ab_V} {x : Value} (hv : ab_RV b B n ρ v x) (hw : ab_wide v = true) :
    ab_R2 b B n ρ (ab_sto i v L) ((i, x) :: l.filter (fun q => !(q.1 == i) && (!(q.1 == i + 1) && !(q.1 + 1 == i && q.2.category == 2)))) := by
  rw [ab_sto_eq]
  refine ⟨rfl, hv, ab_R2.filter (fun j w y hy => ?_) h⟩
  unfold ab_keep
  rw [hw, hy.cat]
  dsimp only
  rw [ab_beq_eq, ab_beq_eq, ab_beq_eq]
  cases j == i <;> cases j + 1 == i <;> cases ab_wide w <;> cases j == i + 1 <;> rfl
def ab_RL (b B n : Nat) (ρ : Nat → Int) (nL : Nat) (L : ab_L) (ls : Array Slot) : Prop := ∃ lv, lv_has ls nL lv ∧ ab_R2 b B n ρ L lv
theorem ab_RL.ext {b B n n' : Nat} {ρ ρ' : Nat → Int} (hE : ab_Ext n ρ n' ρ') {nL : Nat} {L : ab_L} {ls : Array Slot} (h : ab_RL b B n ρ nL L ls) : ab_RL b B n' ρ' nL L ls := by
  obtain ⟨lv, h1, h2⟩ := h
  exact ⟨lv, h1, h2.ext hE⟩
theorem ab_RL.get {b B n : Nat} {ρ : Nat → Int} {nL : Nat} {L : ab_L} {ls : Array Slot} (h : ab_RL b B n ρ nL L ls) {i : Nat} {v : ab_V} (hl : ab_lk L i = some v) : ∃ x, ls[i]? = some (.val x) ∧ ab_RV b B n ρ v x := by
  obtain ⟨lv, h1, h2⟩ := h
  obtain ⟨x, h3, h4⟩ := h2.get hl
  exact ⟨x, h1.2.2 _ h3, h4⟩
/-- rows of types 0 int 1 long 2 boolean, 3 and 4 rows of rows -/
def ab_ty (ty : Nat) (x : Value) : Prop := match ty with
  | 0 => ∃ v, x = .int v
  | 1 => ∃ v, x = .long v
  | 2 => x = .int 0 ∨ x = .int 1
  | _ => True
noncomputable def ab_fv (FT : Nat → Nat → Nat) (ci : Nat) (fs : ab_L) (f : Nat) : ab_V := match ab_lk fs f with
  | some v => v
  | none => ab_def (FT ci f)
noncomputable def ab_el (d : ab_V) (l : ab_L) (j : Nat) : ab_V := match ab_lk l j with
  | some v => v
  | none => d
section RH
variable (dC : Nat → ClassId) (dI : Nat → Nat → Nat) (dA : Nat → ClassId) (NF : Nat → Nat) (FT : Nat → Nat → Nat) (BS : Nat → Option ab_C)
def ab_RC (b B n : Nat) (ρ : Nat → Int) : ab_C → Option Cell → Prop
  | .inl (ci, fs), oc => ∃ (V : Nat → Value) (ce : Cell), oc = some ce ∧ ce.cls = dC ci ∧ ce.vm = .none ∧ (∀ k, k < NF ci → ce.slots[dI ci k]? = some (V k)) ∧ ∀ k, k < NF ci → ab_RV b B n ρ (ab_fv FT ci fs k) (V k)
  | .inr (ty, len, ct), oc => (ty = 9 ∧ ∃ ce, oc = some ce) ∨ (ty ≤ 4 ∧ len ≤ 1000000 ∧ ∃ z : Nat → Value, oc = some (arrV (dA ty) len z) ∧ ∀ j, j < len → ab_ty ty (z j) ∧ match ct with
    | none => True
    | some (d, l) => ab_RV b B n ρ (ab_el d l j) (z j))
theorem ab_RC.ext {b B n n' : Nat} {ρ ρ' : Nat → Int} (hE : ab_Ext n ρ n' ρ') {x : ab_C} {oc : Option Cell} (h : ab_RC dC dI dA NF FT b B n ρ x oc) : ab_RC dC dI dA NF FT b B n' ρ' x oc := by
  match x, h with
  | .inl (ci, fs), ⟨V, ce, h1, h2, h3, h4, h5⟩ => exact ⟨V, ce, h1, h2, h3, h4, fun k hk => (h5 k hk).ext hE⟩
  | .inr (ty, len, ct), Or.inl h => exact Or.inl h
  | .inr (ty, len, none), Or.inr ⟨h1, h2, z, h3, h4⟩ => exact Or.inr ⟨h1, h2, z, h3, h4⟩
  | .inr (ty, len, some (d, l)), Or.inr ⟨h1, h2, z, h3, h4⟩ => exact Or.inr ⟨h1, h2, z, h3, fun j hj => ⟨(h4 j hj).1, (h4 j hj).2.ext hE⟩⟩
def ab_RH (b B n : Nat) (ρ : Nat → Int) (h : ab_H) (H : Heap) : Prop :=
  1 ≤ h.1 ∧ H.size = B + (h.1 - 1) ∧ ∀ c x, ab_cl BS h c = some x → c < h.1 ∧ ab_RC dC dI dA NF FT b B n ρ x H[ab_ad b B c]?
variable {dC dI dA NF FT BS}
theorem ab_RH.ext {b B n n' : Nat} {ρ ρ' : Nat → Int} (hE : ab_Ext n ρ n' ρ') {h : ab_H} {H : Heap} (hH : ab_RH dC dI dA NF FT BS b B n ρ h H) : ab_RH dC dI dA NF FT BS b B n' ρ' h H :=
  ⟨hH.1, hH.2.1, fun c x hx => ⟨(hH.2.2 c x hx).1, ab_RC.ext dC dI dA NF FT hE (hH.2.2 c x hx).2⟩⟩
theorem ab_cl_put (h : ab_H) (c : Nat) (x : ab_C) (d : Nat) : ab_cl BS (ab_put h c x) d = if c = d then some x else ab_cl BS h d := by
  unfold ab_cl ab_put
  by_cases e : c = d
  · subst e
    rw [ab_lk_self, if_pos rfl]
  · rw [ab_lk_ne _ _ e, if_neg e]
theorem ab_cl_new (h : ab_H) (x : ab_C) (d : Nat) : ab_cl BS (ab_new h x) d = if h.1 = d then some x else ab_cl BS h d := ab_cl_put h h.1 x d
theorem ab_RH.put {b B n : Nat} {ρ : Nat → Int} (hb : b < B) {h : ab_H} {H H1 : Heap} (hH : ab_RH dC dI dA NF FT BS b B n ρ h H) {c : Nat} {x y : ab_C} (hc : ab_cl BS h c = some y) (hx : ab_RC dC dI dA NF FT b B n ρ x H1[ab_ad b B c]?)
    (hz : H1.size = H.size) (ho : ∀ q : Nat, q ≠ ab_ad b B c → H1[q]? = H[q]?) : ab_RH dC dI dA NF FT BS b B n ρ (ab_put h c x) H1 := by
  refine ⟨hH.1, by rw [hz]; exact hH.2.1, fun d y2 hd => ?_⟩
  rw [ab_cl_put] at hd
  by_cases e : c = d
  · rw [if_pos e] at hd
    cases hd
    subst e
    exact ⟨(hH.2.2 c y hc).1, hx⟩
  · rw [if_neg e] at hd
    have h2 := hH.2.2 d y2 hd
    refine ⟨h2.1, ?_⟩
    rw [ho _ (fun q => e (ab_ad_inj hb q).symm)]
    exact h2.2
theorem ab_RH.new {b B n : Nat} {ρ : Nat → Int} {h : ab_H} {H H1 : Heap} (hH : ab_RH dC dI dA NF FT BS b B n ρ h H) (hb : b < B) {x : ab_C} (hx : ab_RC dC dI dA NF FT b B n ρ x H1[H.size]?)
    (hz : H1.size = H.size + 1) (ho : ∀ q : Nat, q < H.size → H1[q]? = H[q]?) : ab_RH dC dI dA NF FT BS b B n ρ (ab_new h x) H1 := by
  have h1 := hH.1
  have h2 := hH.2.1
  have ha : ab_ad b B h.1 = H.size := by
    rw [h2]
    cases hh : h.1 with
    | zero => omega
    | succ k => show B + k = B + (k + 1 - 1); omega
  refine ⟨Nat.le_succ_of_le h1, by show H1.size = B + (h.1 + 1 - 1); omega, fun d y hd => ?_⟩
  rw [ab_cl_new] at hd
  by_cases e : h.1 = d
  · rw [if_pos e] at hd
    cases hd
    subst e
    exact ⟨Nat.lt_succ_self _, by rw [ha]; exact hx⟩
  · rw [if_neg e] at hd
    have h3 := hH.2.2 d y hd
    refine ⟨Nat.lt_succ_of_lt h3.1, ?_⟩
    have hlt : ab_ad b B d < H.size := by
      have := h3.1
      cases d with
      | zero => show b < H.size; omega
      | succ k => show B + k < H.size; omega
    rw [ho _ hlt]
    exact h3.2
theorem ab_RH.addr {b B n : Nat} {ρ : Nat → Int} {h : ab_H} {H : Heap} (hH : ab_RH dC dI dA NF FT BS b B n ρ h H) : ab_ad b B h.1 = H.size := by
  have h1 := hH.1
  rw [hH.2.1]
  cases hh : h.1 with
  | zero => omega
  | succ k => show B + k = B + (k + 1 - 1); omega
end RH
end
section
/-! ROWS that touch locals, stack and numbers alone: what the table's class says of the instruction, and that the machine does it. -/
section R1
variable {p : Program} {l : Launch} {e : Env} {R : Room} {s : State} {m : MethodId} {args : Array Value} {below : List Frame} {meth : Method} {c : Code} {H : Heap} {locs : List Loc} {cells slots : Nat} {Q : State → Prop}
variable {cc : ByteArray} {pc : Nat} {ls : Array Slot} {rest : List Value}
/-- loads -/
def ab_k3 (ins : Instr) (len tg i : Nat) : Prop := match ins with
  | .iload_n k => tg = 0 ∧ k.val = i ∧ len = 1
  | .iload j => tg = 0 ∧ j = i ∧ len = 2
  | .lload_n k => tg = 1 ∧ k.val = i ∧ len = 1
  | .lload j => tg = 1 ∧ j = i ∧ len = 2
  | .aload_n k => tg = 2 ∧ k.val = i ∧ len = 1
  | .aload j => tg = 2 ∧ j = i ∧ len = 2
  | .dload_n k => tg = 4 ∧ k.val = i ∧ len = 1
  | _ => False
theorem ab_tag0 {v : ab_V} (h : ab_tag 0 v = true) : ∃ z, v = .inl (.inl z) := by
  match v, h with
  | .inl (.inl z), _ => exact ⟨z, rfl⟩
  | .inl (.inr _), h => cases h
  | .inr (.inl _), h => cases h
  | .inr (.inr _), h => cases h
theorem ab_tag1 {v : ab_V} (h : ab_tag 1 v = true) : ∃ z, v = .inl (.inr z) := by
  match v, h with
  | .inl (.inr z), _ => exact ⟨z, rfl⟩
  | .inl (.inl _), h => cases h
  | .inr (.inl _), h => cases h
  | .inr (.inr _), h => cases h
theorem ab_tag2 {v : ab_V} (h : ab_tag 2 v = true) {b B n : Nat} {ρ : Nat → Int} {x : Value} (hv : ab_RV b B n ρ v x) : ∃ a, x = .ref a := by
  match v, h with
  | .inr (.inl z), _ => exact ⟨_, hv⟩
  | .inl (.inr z), h => cases h
  | .inl (.inl _), h => cases h
  | .inr (.inr t), h =>
    have e : t = 2 := ab_beq h
    subst e
    rcases hv with ⟨q, _⟩ | ⟨q, _⟩ | ⟨_, q⟩ | ⟨q, _⟩ | ⟨q, _⟩
    · cases q
    · cases q
    · exact q
    · cases q
    · cases q
theorem ab_tag4 {v : ab_V} (h : ab_tag 4 v = true) {b B n : Nat} {ρ : Nat → Int} {x : Value} (hv : ab_RV b B n ρ v x) : ∃ d, x = .double d := by
  match v, h with
  | .inr (.inl z), h => cases h
  | .inl (.inr z), h => cases h
  | .inl (.inl _), h => cases h
  | .inr (.inr t), h =>
    have e : t = 4 := ab_beq h
    subst e
    rcases hv with ⟨q, _⟩ | ⟨q, _⟩ | ⟨q, _⟩ | ⟨q, _⟩ | ⟨_, q⟩
    · cases q
    · cases q
    · cases q
    · cases q
    · exact q
theorem ab_w3 (hx : p.tables.exec = Jvm.exec) (hb : c.code = cc) {ins : Instr} {len tg i : Nat} (hd : decode cc pc = .ok (ins, len)) (hk : ab_k3 ins len tg i) {b B n : Nat} {ρ : Nat → Int} {v : ab_V} {x : Value} (ht : ab_tag tg v = true) (hl : ls[i]? = some (.val x)) (hv : ab_RV b B n ρ v x)
    (k : W p l e R s m args below meth c H locs cells slots Q (F0 m (pc + len) ls (x :: rest))) : W p l e R s m args below meth c H locs cells slots Q (F0 m pc ls rest) := by
  unfold ab_k3 at hk
  split at hk
  · obtain ⟨rfl, e2, rfl⟩ := hk
    obtain ⟨z, rfl⟩ := ab_tag0 ht
    obtain ⟨rfl, -, -⟩ := hv
    exact lv_iload_n hx hb hd e2 hl k
  · obtain ⟨rfl, rfl, rfl⟩ := hk
    obtain ⟨z, rfl⟩ := ab_tag0 ht
    obtain ⟨rfl, -, -⟩ := hv
    exact lv_iload hx hb hd hl k
  · obtain ⟨rfl, e2, rfl⟩ := hk
    obtain ⟨z, rfl⟩ := ab_tag1 ht
    obtain ⟨rfl, -, -⟩ := hv
    exact lv_lload_n hx hb hd e2 hl k
  · obtain ⟨rfl, rfl, rfl⟩ := hk
    obtain ⟨z, rfl⟩ := ab_tag1 ht
    obtain ⟨rfl, -, -⟩ := hv
    exact lv_lload hx hb hd hl k
  · obtain ⟨rfl, e2, rfl⟩ := hk
    obtain ⟨z, rfl⟩ := ab_tag2 ht hv
    exact lv_aload_n hx hb hd e2 hl k
  · obtain ⟨rfl, rfl, rfl⟩ := hk
    obtain ⟨z, rfl⟩ := ab_tag2 ht hv
    exact lv_aload hx hb hd hl k
  · obtain ⟨rfl, e2, rfl⟩ := hk
    obtain ⟨z, rfl⟩ := ab_tag4 ht hv
    exact lv_dload_n hx hb hd e2 hl k
  · exact hk.elim
/-- constants -/
def ab_k0c (ins : Instr) (len : Nat) (A : Int) : Prop := match ins with
  | .iconst n => Int32.ofInt n = Int32.ofInt A ∧ len = 1
  | .bipush n => (Int8.ofInt n).toInt32 = Int32.ofInt A ∧ len = 2
  | .sipush n => (Int16.ofInt n).toInt32 = Int32.ofInt A ∧ len = 3
  | _ => False
theorem ab_w0 (hx : p.tables.exec = Jvm.exec) (hb : c.code = cc) {ins : Instr} {len : Nat} {A : Int} (hd : decode cc pc = .ok (ins, len)) (hk : ab_k0c ins len A)
    (k : W p l e R s m args below meth c H locs cells slots Q (F0 m (pc + len) ls (.int (Int32.ofInt A) :: rest))) : W p l e R s m args below meth c H locs cells slots Q (F0 m pc ls rest) := by
  unfold ab_k0c at hk
  split at hk
  · obtain ⟨e1, rfl⟩ := hk
    exact lv_iconst hx hb hd e1 k
  · obtain ⟨e1, rfl⟩ := hk
    exact lv_bipush hx hb hd e1 k
  · obtain ⟨e1, rfl⟩ := hk
    exact lv_sipush hx hb hd e1 k
  · exact hk.elim
/-- stores: of two slots -/
def ab_k4 (ins : Instr) (len tg i : Nat) : Prop := match ins with
  | .istore_n k => tg = 0 ∧ k.val = i ∧ len = 1
  | .istore j => tg = 0 ∧ j = i ∧ len = 2
  | .lstore_n k => tg = 1 ∧ k.val = i ∧ len = 1
  | .lstore j => tg = 1 ∧ j = i ∧ len = 2
  | .astore_n k => tg = 2 ∧ k.val = i ∧ len = 1
  | .astore j => tg = 2 ∧ j = i ∧ len = 2
  | _ => False
theorem ab_wide1 {z : ab_S} : ab_wide (.inl (.inr z)) = true := rfl
theorem ab_w4 (hx : p.tables.exec = Jvm.exec) (hb : c.code = cc) {ins : Instr} {len tg i nL : Nat} (hd : decode cc pc = .ok (ins, len)) (hk : ab_k4 ins len tg i) {b B n : Nat} {ρ : Nat → Int} {L : ab_L} {v : ab_V} {x : Value} (hi : i + 1 < nL ∨ (i < nL ∧ tg ≠ 1)) (ht : ab_tag tg v = true) (hv : ab_RV b B n ρ v x) (hL : ab_RL b B n ρ nL L ls)
    (k : ∀ ls' : Array Slot, ab_RL b B n ρ nL (ab_sto i v L) ls' → W p l e R s m args below meth c H locs cells slots Q (F0 m (pc + len) ls' rest)) : W p l e R s m args below meth c H locs cells slots Q (F0 m pc ls (x :: rest)) := by
  obtain ⟨lv, h1, h2⟩ := hL
  unfold ab_k4 at hk
  split at hk
  · obtain ⟨rfl, e2, rfl⟩ := hk
    obtain ⟨z, rfl⟩ := ab_tag0 ht
    have hv' := hv
    obtain ⟨rfl, -, -⟩ := hv
    exact lv_istore_n hx hb hd e2 h1 (by omega) rfl (fun ls' h => k ls' ⟨_, h, h2.sto1 hv' rfl⟩)
  · obtain ⟨rfl, rfl, rfl⟩ := hk
    obtain ⟨z, rfl⟩ := ab_tag0 ht
    have hv' := hv
    obtain ⟨rfl, -, -⟩ := hv
    exact lv_istore hx hb hd h1 (by omega) rfl (fun ls' h => k ls' ⟨_, h, h2.sto1 hv' rfl⟩)
  · obtain ⟨rfl, e2, rfl⟩ := hk
    obtain ⟨z, rfl⟩ := ab_tag1 ht
    have hv' := hv
    obtain ⟨rfl, -, -⟩ := hv
    exact lv_lstore_n hx hb hd e2 h1 (by omega) rfl (fun ls' h => k ls' ⟨_, h, h2.sto2 hv' rfl⟩)
  · obtain ⟨rfl, rfl, rfl⟩ := hk
    obtain ⟨z, rfl⟩ := ab_tag1 ht
    have hv' := hv
    obtain ⟨rfl, -, -⟩ := hv
    exact lv_lstore hx hb hd h1 (by omega) rfl (fun ls' h => k ls' ⟨_, h, h2.sto2 hv' rfl⟩)
  · obtain ⟨rfl, e2, rfl⟩ := hk
    have hw : ab_wide v = false := by
      match v, ht with
      | .inr (.inl _), _ => rfl
      | .inl (.inr z), h => cases h
      | .inl (.inl _), h => cases h
      | .inr (.inr t), h => rw [show t = 2 from ab_beq h]; rfl
    have hv' := hv
    obtain ⟨z, rfl⟩ := ab_tag2 ht hv
    exact lv_astore_n hx hb hd e2 h1 (by omega) rfl (fun ls' h => k ls' ⟨_, h, h2.sto1 hv' hw⟩)
  · obtain ⟨rfl, rfl, rfl⟩ := hk
    have hw : ab_wide v = false := by
      match v, ht with
      | .inr (.inl _), _ => rfl
      | .inl (.inr z), h => cases h
      | .inl (.inl _), h => cases h
      | .inr (.inr t), h => rw [show t = 2 from ab_beq h]; rfl
    have hv' := hv
    obtain ⟨z, rfl⟩ := ab_tag2 ht hv
    exact lv_astore hx hb hd h1 (by omega) rfl (fun ls' h => k ls' ⟨_, h, h2.sto1 hv' hw⟩)
  · exact hk.elim
/-- iinc -/
theorem ab_w5 (hx : p.tables.exec = Jvm.exec) (hb : c.code = cc) {i nL : Nat} {A : Int} (hd : decode cc pc = .ok (.iinc i A, 3)) {b B n n' : Nat} {ρ ρ' : Nat → Int} {L : ab_L} {x : Int32} {v : ab_V} (hi : i < nL) (hl : ls[i]? = some (.val (.int x))) (hL : ab_RL b B n ρ nL L ls) (hE : ab_Ext n ρ n' ρ') (hv : ab_RV b B n' ρ' v (.int (x + Int32.ofInt A)))
    (k : ∀ ls' : Array Slot, ab_RL b B n' ρ' nL (ab_sto i v L) ls' → W p l e R s m args below meth c H locs cells slots Q (F0 m (pc + 3) ls' rest)) : W p l e R s m args below meth c H locs cells slots Q (F0 m pc ls rest) := by
  obtain ⟨lv, h1, h2⟩ := hL
  have hw : ab_wide v = false := by
    have := hv.cat
    cases hq : ab_wide v
    · rfl
    · rw [hq] at this; cases this
  have h3 : lv_has ls nL ((i, Value.int x) :: lv) := ⟨h1.1, h1.2.1, fun q hq => by
    rcases List.mem_cons.mp hq with rfl | hq
    · exact hl
    · exact h1.2.2 q hq⟩
  refine lv_iinc (k := 0) hx hb hd h3 rfl rfl hi rfl (fun ls' h => k ls' ?_)
  refine ⟨_, ?_, (h2.ext hE).sto1 hv hw⟩
  have e : (((i, Value.int x) :: lv).filter (fun q => !(q.1 == i) && !(q.1 + 1 == i && q.2.category == 2))) = lv.filter (fun q => !(q.1 == i) && !(q.1 + 1 == i && q.2.category == 2)) := by
    rw [List.filter_cons]
    simp
  rw [e] at h
  exact h
/-- arithmetic of two -/
def ab_k6 (ins : Instr) (kd op : Nat) : Prop := match ins with
  | .iadd => kd = 0 ∧ op = 0 | .isub => kd = 0 ∧ op = 1 | .imul => kd = 0 ∧ op = 2 | .idiv => kd = 0 ∧ op = 3 | .irem => kd = 0 ∧ op = 4
  | .iand => kd = 0 ∧ op = 5 | .ior => kd = 0 ∧ op = 6 | .ixor => kd = 0 ∧ op = 7 | .ishl => kd = 0 ∧ op = 8 | .ishr => kd = 0 ∧ op = 9
  | .ladd => kd = 1 ∧ op = 0 | .lsub => kd = 1 ∧ op = 1 | .lmul => kd = 1 ∧ op = 2 | .ldiv => kd = 1 ∧ op = 3 | .lrem => kd = 1 ∧ op = 4
  | .land => kd = 1 ∧ op = 5 | .lor => kd = 1 ∧ op = 6 | .lxor => kd = 1 ∧ op = 7
  | _ => False
theorem ab_ne0 {z : Int} (hR : ab_R 0 z) (h : z ≠ 0) : ¬ Int32.ofInt z = 0 := by
  intro q
  have := ab_t32 hR
  rw [q] at this
  exact h this.symm
theorem ab_ne0L {z : Int} (hR : ab_R 1 z) (h : z ≠ 0) : ¬ Int64.ofInt z = 0 := by
  intro q
  have := ab_t64 hR.1 hR.2
  rw [q] at this
  exact h this.symm
theorem ab_w6 (hx : p.tables.exec = Jvm.exec) (hb : c.code = cc) {ins : Instr} {op : Nat} (hd : decode cc pc = .ok (ins, 1)) (hk : ab_k6 ins 0 op) {x y : Int} (hy : ab_R 0 y) (h0 : (op = 3 ∨ op = 4) → y ≠ 0)
    (k : W p l e R s m args below meth c H locs cells slots Q (F0 m (pc + 1) ls (.int (Int32.ofInt (ab_opZ 0 op x y)) :: rest))) : W p l e R s m args below meth c H locs cells slots Q (F0 m pc ls (.int (Int32.ofInt y) :: .int (Int32.ofInt x) :: rest)) := by
  have ez : ∀ q : Int32, Int32.ofInt q.toInt = q := Int32.ofInt_toInt
  unfold ab_opZ at k
  rw [show Nat.beq 0 0 = true from rfl, cond_true, ez] at k
  unfold ab_k6 at hk
  split at hk
  all_goals first | exact hk.elim | (obtain ⟨e1, e2⟩ := hk; first | (cases e1; done) | skip)
  all_goals subst e2
  · exact lv_iadd hx hb hd k
  · exact lv_isub hx hb hd k
  · exact lv_imul hx hb hd k
  · exact lv_idiv hx hb hd (ab_ne0 hy (h0 (Or.inl rfl))) k
  · exact lv_irem hx hb hd (ab_ne0 hy (h0 (Or.inr rfl))) k
  · exact lv_iand hx hb hd k
  · exact lv_ior hx hb hd k
  · exact lv_ixor hx hb hd k
  · exact lv_ishl hx hb hd k
  · exact lv_ishr hx hb hd k
theorem ab_w6L (hx : p.tables.exec = Jvm.exec) (hb : c.code = cc) {ins : Instr} {op : Nat} (hd : decode cc pc = .ok (ins, 1)) (hk : ab_k6 ins 1 op) {x y : Int} (hy : ab_R 1 y) (h0 : (op = 3 ∨ op = 4) → y ≠ 0)
    (k : W p l e R s m args below meth c H locs cells slots Q (F0 m (pc + 1) ls (.long (Int64.ofInt (ab_opZ 1 op x y)) :: rest))) : W p l e R s m args below meth c H locs cells slots Q (F0 m pc ls (.long (Int64.ofInt y) :: .long (Int64.ofInt x) :: rest)) := by
  have ez : ∀ q : Int64, Int64.ofInt q.toInt = q := Int64.ofInt_toInt
  unfold ab_opZ at k
  rw [show Nat.beq 1 0 = false from rfl, cond_false, ez] at k
  unfold ab_k6 at hk
  split at hk
  all_goals first | exact hk.elim | (obtain ⟨e1, e2⟩ := hk; first | (cases e1; done) | skip)
  all_goals subst e2
  · exact lv_ladd hx hb hd k
  · exact lv_lsub hx hb hd k
  · exact lv_lmul hx hb hd k
  · exact lv_ldiv hx hb hd (ab_ne0L hy (h0 (Or.inl rfl))) k
  · exact lv_lrem hx hb hd (ab_ne0L hy (h0 (Or.inr rfl))) k
  · exact lv_land hx hb hd k
  · exact lv_lor hx hb hd k
  · exact lv_lxor hx hb hd k
theorem ab_neg32 (x : Int) : Int32.ofInt (ab_opZ 0 1 0 x) = -Int32.ofInt x := by
  show Int32.ofInt (Int32.ofInt 0 - Int32.ofInt x).toInt = _
  rw [Int32.ofInt_toInt, show Int32.ofInt 0 = 0 from rfl, Int32.zero_sub]
theorem ab_neg64 (x : Int) : Int64.ofInt (ab_opZ 1 1 0 x) = -Int64.ofInt x := by
  show Int64.ofInt (Int64.ofInt 0 - Int64.ofInt x).toInt = _
  rw [Int64.ofInt_toInt, show Int64.ofInt 0 = 0 from rfl, Int64.zero_sub]
/-- conditions of the machine -/
def ab_cn (k : Nat) : ClassFile.Cond := match k with
  | 0 => .eq | 1 => .ne | 2 => .lt | 3 => .ge | 4 => .gt | _ => .le
theorem ab_w21 (hx : p.tables.exec = Jvm.exec) (hb : c.code = cc) {k : Nat} {off : Int} {tgt : Nat} (hk : k ≤ 5) (hd : decode cc pc = .ok (.ifCond (ab_cn k) off, 3)) (ht : (pc : Int) + off = (tgt : Int)) {x : Int} (hR : ab_R 0 x)
    (kk : W p l e R s m args below meth c H locs cells slots Q (F0 m (bif ab_hold k x 0 then tgt else pc + 3) ls rest)) : W p l e R s m args below meth c H locs cells slots Q (F0 m pc ls (.int (Int32.ofInt x) :: rest)) := by
  have ex := ab_t32 hR
  have e0 : (0 : Int32).toInt = 0 := rfl
  revert hd kk
  refine ab_c5 (P := fun k => decode cc pc = .ok (.ifCond (ab_cn k) off, 3) → W p l e R s m args below meth c H locs cells slots Q (F0 m (bif ab_hold k x 0 then tgt else pc + 3) ls rest) → W p l e R s m args below meth c H locs cells slots Q (F0 m pc ls (.int (Int32.ofInt x) :: rest))) ?_ ?_ ?_ ?_ ?_ ?_ hk
  · intro hd kk
    refine lv_if_eq hx hb hd ht (fun q => ?_) (fun q => ?_)
    · rw [(ab_h0 x 0).mpr (by rw [← ex, q]; rfl)] at kk; exact kk
    · rw [ab_bool (b := ab_hold 0 x 0) (fun h => q (by rw [(ab_h0 x 0).mp h]; rfl))] at kk; exact kk
  · intro hd kk
    refine lv_if_ne hx hb hd ht (fun q => ?_) (fun q => ?_)
    · rw [(ab_h1 x 0).mpr (fun h => q (by rw [h]; rfl))] at kk; exact kk
    · rw [ab_bool (b := ab_hold 1 x 0) (fun h => (ab_h1 x 0).mp h (by rw [← ex, q]; rfl))] at kk; exact kk
  · intro hd kk
    refine lv_if_lt hx hb hd ht (fun q => ?_) (fun q => ?_)
    · rw [Int32.lt_iff_toInt_lt, ex, e0] at q
      rw [(ab_h2 x 0).mpr q] at kk; exact kk
    · rw [Int32.lt_iff_toInt_lt, ex, e0] at q
      rw [ab_bool (b := ab_hold 2 x 0) (fun h => q ((ab_h2 x 0).mp h))] at kk; exact kk
  · intro hd kk
    refine lv_if_ge hx hb hd ht (fun q => ?_) (fun q => ?_)
    · rw [Int32.le_iff_toInt_le, ex, e0] at q
      rw [(ab_h3 x 0).mpr q] at kk; exact kk
    · rw [Int32.le_iff_toInt_le, ex, e0] at q
      rw [ab_bool (b := ab_hold 3 x 0) (fun h => q ((ab_h3 x 0).mp h))] at kk; exact kk
  · intro hd kk
    refine lv_if_gt hx hb hd ht (fun q => ?_) (fun q => ?_)
    · rw [Int32.lt_iff_toInt_lt, ex, e0] at q
      rw [(ab_h4 x 0).mpr q] at kk; exact kk
    · rw [Int32.lt_iff_toInt_lt, ex, e0] at q
      rw [ab_bool (b := ab_hold 4 x 0) (fun h => q ((ab_h4 x 0).mp h))] at kk; exact kk
  · intro hd kk
    refine lv_if_le hx hb hd ht (fun q => ?_) (fun q => ?_)
    · rw [Int32.le_iff_toInt_le, ex, e0] at q
      rw [(ab_h5 x 0).mpr q] at kk; exact kk
    · rw [Int32.le_iff_toInt_le, ex, e0] at q
      rw [ab_bool (b := ab_hold 5 x 0) (fun h => q ((ab_h5 x 0).mp h))] at kk; exact kk
theorem ab_w22 (hx : p.tables.exec = Jvm.exec) (hb : c.code = cc) {k : Nat} {off : Int} {tgt : Nat} (hk : k ≤ 5) (hd : decode cc pc = .ok (.if_icmp (ab_cn k) off, 3)) (ht : (pc : Int) + off = (tgt : Int)) {x y : Int} (hR : ab_R 0 x) (hR2 : ab_R 0 y)
    (kk : W p l e R s m args below meth c H locs cells slots Q (F0 m (bif ab_hold k x y then tgt else pc + 3) ls rest)) : W p l e R s m args below meth c H locs cells slots Q (F0 m pc ls (.int (Int32.ofInt y) :: .int (Int32.ofInt x) :: rest)) := by
  have ex := ab_t32 hR
  have ey := ab_t32 hR2
  revert hd kk
  refine ab_c5 (P := fun k => decode cc pc = .ok (.if_icmp (ab_cn k) off, 3) → W p l e R s m args below meth c H locs cells slots Q (F0 m (bif ab_hold k x y then tgt else pc + 3) ls rest) → W p l e R s m args below meth c H locs cells slots Q (F0 m pc ls (.int (Int32.ofInt y) :: .int (Int32.ofInt x) :: rest))) ?_ ?_ ?_ ?_ ?_ ?_ hk
  · intro hd kk
    refine lv_icmp_eq hx hb hd ht (fun q => ?_) (fun q => ?_)
    · rw [(ab_h0 x y).mpr (by rw [← ex, q, ey])] at kk; exact kk
    · rw [ab_bool (b := ab_hold 0 x y) (fun h => q (by rw [(ab_h0 x y).mp h]))] at kk; exact kk
  · intro hd kk
    refine lv_icmp_ne hx hb hd ht (fun q => ?_) (fun q => ?_)
    · rw [(ab_h1 x y).mpr (fun h => q (by rw [h]))] at kk; exact kk
    · rw [ab_bool (b := ab_hold 1 x y) (fun h => (ab_h1 x y).mp h (by rw [← ex, q, ey]))] at kk; exact kk
  · intro hd kk
    refine lv_icmp_lt hx hb hd ht (fun q => ?_) (fun q => ?_)
    · rw [Int32.lt_iff_toInt_lt, ex, ey] at q
      rw [(ab_h2 x y).mpr q] at kk; exact kk
    · rw [Int32.lt_iff_toInt_lt, ex, ey] at q
      rw [ab_bool (b := ab_hold 2 x y) (fun h => q ((ab_h2 x y).mp h))] at kk; exact kk
  · intro hd kk
    refine lv_icmp_ge hx hb hd ht (fun q => ?_) (fun q => ?_)
    · rw [Int32.le_iff_toInt_le, ex, ey] at q
      rw [(ab_h3 x y).mpr q] at kk; exact kk
    · rw [Int32.le_iff_toInt_le, ex, ey] at q
      rw [ab_bool (b := ab_hold 3 x y) (fun h => q ((ab_h3 x y).mp h))] at kk; exact kk
  · intro hd kk
    refine lv_icmp_gt hx hb hd ht (fun q => ?_) (fun q => ?_)
    · rw [Int32.lt_iff_toInt_lt, ex, ey] at q
      rw [(ab_h4 x y).mpr q] at kk; exact kk
    · rw [Int32.lt_iff_toInt_lt, ex, ey] at q
      rw [ab_bool (b := ab_hold 4 x y) (fun h => q ((ab_h4 x y).mp h))] at kk; exact kk
  · intro hd kk
    refine lv_icmp_le hx hb hd ht (fun q => ?_) (fun q => ?_)
    · rw [Int32.le_iff_toInt_le, ex, ey] at q
      rw [(ab_h5 x y).mpr q] at kk; exact kk
    · rw [Int32.le_iff_toInt_le, ex, ey] at q
      rw [ab_bool (b := ab_hold 5 x y) (fun h => q ((ab_h5 x y).mp h))] at kk; exact kk
theorem ab_w23 (hx : p.tables.exec = Jvm.exec) (hb : c.code = cc) {k : Nat} {off : Int} {tgt : Nat} (hk : k ≤ 5) (hd0 : decode cc pc = .ok (.lcmp, 1)) (hd : decode cc (pc + 1) = .ok (.ifCond (ab_cn k) off, 3)) (ht : ((pc + 1 : Nat) : Int) + off = (tgt : Int)) {x y : Int} (hR : ab_R 1 x) (hR2 : ab_R 1 y)
    (kk : W p l e R s m args below meth c H locs cells slots Q (F0 m (bif ab_hold k x y then tgt else pc + 1 + 3) ls rest)) : W p l e R s m args below meth c H locs cells slots Q (F0 m pc ls (.long (Int64.ofInt y) :: .long (Int64.ofInt x) :: rest)) := by
  have ex := ab_t64 hR.1 hR.2
  have ey := ab_t64 hR2.1 hR2.2
  refine W.lcmp hx hb hd0 ?_
  revert hd kk
  refine ab_c5 (P := fun k => decode cc (pc + 1) = .ok (.ifCond (ab_cn k) off, 3) → W p l e R s m args below meth c H locs cells slots Q (F0 m (bif ab_hold k x y then tgt else pc + 1 + 3) ls rest) → W p l e R s m args below meth c H locs cells slots Q (F0 m (pc + 1) ls (.int (lg_cmp (Int64.ofInt x) (Int64.ofInt y)) :: rest))) ?_ ?_ ?_ ?_ ?_ ?_ hk
  · intro hd kk
    refine lv_if_eq hx hb hd ht (fun q => ?_) (fun q => ?_)
    · rw [lg_cmp_eq] at q
      rw [(ab_h0 x y).mpr (by rw [← ex, q, ey])] at kk; exact kk
    · rw [lg_cmp_eq] at q
      rw [ab_bool (b := ab_hold 0 x y) (fun h => q (by rw [(ab_h0 x y).mp h]))] at kk; exact kk
  · intro hd kk
    refine lv_if_ne hx hb hd ht (fun q => ?_) (fun q => ?_)
    · rw [lg_cmp_eq] at q
      rw [(ab_h1 x y).mpr (fun h => q (by rw [h]))] at kk; exact kk
    · rw [lg_cmp_eq] at q
      rw [ab_bool (b := ab_hold 1 x y) (fun h => (ab_h1 x y).mp h (by rw [← ex, q, ey]))] at kk; exact kk
  · intro hd kk
    refine lv_if_lt hx hb hd ht (fun q => ?_) (fun q => ?_)
    · rw [lg_cmp_lt, Int64.lt_iff_toInt_lt, ex, ey] at q
      rw [(ab_h2 x y).mpr q] at kk; exact kk
    · rw [lg_cmp_lt, Int64.lt_iff_toInt_lt, ex, ey] at q
      rw [ab_bool (b := ab_hold 2 x y) (fun h => q ((ab_h2 x y).mp h))] at kk; exact kk
  · intro hd kk
    refine lv_if_ge hx hb hd ht (fun q => ?_) (fun q => ?_)
    · rw [lg_cmp_ge, Int64.le_iff_toInt_le, ex, ey] at q
      rw [(ab_h3 x y).mpr q] at kk; exact kk
    · rw [lg_cmp_ge, Int64.le_iff_toInt_le, ex, ey] at q
      rw [ab_bool (b := ab_hold 3 x y) (fun h => q ((ab_h3 x y).mp h))] at kk; exact kk
  · intro hd kk
    refine lv_if_gt hx hb hd ht (fun q => ?_) (fun q => ?_)
    · rw [lg_cmp_gt, Int64.lt_iff_toInt_lt, ex, ey] at q
      rw [(ab_h4 x y).mpr q] at kk; exact kk
    · rw [lg_cmp_gt, Int64.lt_iff_toInt_lt, ex, ey] at q
      rw [ab_bool (b := ab_hold 4 x y) (fun h => q ((ab_h4 x y).mp h))] at kk; exact kk
  · intro hd kk
    refine lv_if_le hx hb hd ht (fun q => ?_) (fun q => ?_)
    · rw [lg_cmp_le, Int64.le_iff_toInt_le, ex, ey] at q
      rw [(ab_h5 x y).mpr q] at kk; exact kk
    · rw [lg_cmp_le, Int64.le_iff_toInt_le, ex, ey] at q
      rw [ab_bool (b := ab_hold 5 x y) (fun h => q ((ab_h5 x y).mp h))] at kk; exact kk
end R1
end
section
/-! ROWS of the heap: fields, new objects, rows of numbers. -/
def ab_tk (t : Nat) (ty : FieldType) : Prop := match t with
  | 0 => ty = .int
  | 1 => ty = .long
  | 2 => ty = .boolean
  | _ => ty.isReference = true
theorem ab_tk3 {t : Nat} (h : 3 ≤ t) {ty : FieldType} (hk : ab_tk t ty) : ty.isReference = true := by
  match t, h, hk with
  | 0, h, _ => omega
  | 1, h, _ => omega
  | 2, h, _ => omega
  | _ + 3, _, hk => exact hk
theorem ab_ref_fit {ty : FieldType} (h : ty.isReference = true) {x : Value} (hx : x = .null ∨ ∃ a, x = .ref a) : narrow ty x = x ∧ fits ty x = true := by
  cases ty with
  | object C => rcases hx with rfl | ⟨a, rfl⟩ <;> exact ⟨rfl, rfl⟩
  | array t => rcases hx with rfl | ⟨a, rfl⟩ <;> exact ⟨rfl, rfl⟩
  | _ => cases h
theorem ab_01 {z : Int} (h1 : 0 ≤ z) (h2 : z ≤ 1) : z = 0 ∨ z = 1 := by omega
theorem ab_fit_ok {b B : Nat} {ρ : Nat → Int} {G : ab_G} (hs : ab_Sat ρ G) {t : Nat} {ty : FieldType} (hk : ab_tk t ty) {v : ab_V} {x : Value} (h : ab_RV b B G.1 ρ v x) (hf : ab_fit G t v = true) : narrow ty x = x ∧ fits ty x = true := by
  match v, h with
  | .inl (.inl s), ⟨h1, h2, h3⟩ =>
    unfold ab_fit at hf
    dsimp only at hf
    cases e0 : Nat.beq t 0
    · rw [e0, cond_false] at hf
      cases e2 : Nat.beq t 2
      · rw [e2, cond_false] at hf; cases hf
      · rw [e2, cond_true] at hf
        obtain ⟨a1, a2⟩ := ab_an hf
        have ht : t = 2 := ab_beq e2
        subst ht
        have hty : ty = .boolean := hk
        subst hty
        have hiv := ab_iv_ok hs h3
        rcases ab_01 (Int.le_trans ((ab_le_iff _ _).mp a1) hiv.1) (Int.le_trans hiv.2 ((ab_le_iff _ _).mp a2)) with e | e <;> rw [e] at h1 <;> subst h1 <;> exact ⟨rfl, rfl⟩
    · have ht : t = 0 := ab_beq e0
      subst ht
      have hty : ty = .int := hk
      subst hty
      subst h1
      exact ⟨rfl, rfl⟩
  | .inl (.inr s), ⟨h1, h2, h3⟩ =>
    unfold ab_fit at hf
    have ht : t = 1 := ab_beq hf
    subst ht
    have hty : ty = .long := hk
    subst hty
    subst h1
    exact ⟨rfl, rfl⟩
  | .inr (.inl c), h =>
    unfold ab_fit at hf
    exact ab_ref_fit (ab_tk3 (ab_ble hf) hk) (Or.inr ⟨_, h⟩)
  | .inr (.inr u), h =>
    unfold ab_fit at hf
    dsimp only at hf
    obtain ⟨h1, h2⟩ := ab_an hf
    have hu : u = 0 := ab_beq h2
    subst hu
    refine ab_ref_fit (ab_tk3 (ab_ble h1) hk) (Or.inl ?_)
    rcases h with ⟨_, h⟩ | ⟨h, _⟩ | ⟨h, _⟩ | ⟨h, _⟩ | ⟨h, _⟩
    · exact h
    all_goals cases h
theorem ab_z0 : ab_R 0 0 := ⟨by decide, by decide⟩
theorem ab_z1 : ab_R 1 0 := ⟨by decide, by decide⟩
theorem ab_def_ok {b B n : Nat} {ρ : Nat → Int} {t : Nat} {ty : FieldType} (hk : ab_tk t ty) : ab_RV b B n ρ (ab_def t) (defaultValue ty) := by
  match t, hk with
  | 0, hk => rw [show ty = .int from hk]; exact ⟨rfl, ab_z0, trivial⟩
  | 1, hk => rw [show ty = .long from hk]; exact ⟨rfl, ab_z1, trivial⟩
  | 2, hk => rw [show ty = .boolean from hk]; exact ⟨rfl, ab_z0, trivial⟩
  | t + 3, hk =>
    have h : ty.isReference = true := hk
    cases ty with
    | object C => exact Or.inl ⟨rfl, rfl⟩
    | array t => exact Or.inl ⟨rfl, rfl⟩
    | _ => cases h
/-- an index within -/
theorem ab_idx {z : Int} {n : Nat} (h0 : 0 ≤ z) (h1 : z < n) (hn : n ≤ 1000000) : (Int32.ofInt z).toNatClampNeg = z.toNat ∧ ¬ (Int32.ofInt z < 0 ∨ n ≤ (Int32.ofInt z).toNatClampNeg) := by
  have e : (Int32.ofInt z).toInt = z := ab_t32 (by constructor <;> (try unfold ab_lo) <;> (try unfold ab_hi) <;> simp <;> omega)
  have e2 : (Int32.ofInt z).toNatClampNeg = z.toNat := by
    show (Int32.ofInt z).toInt.toNat = _
    rw [e]
  refine ⟨e2, fun h => ?_⟩
  rcases h with h | h
  · rw [Int32.lt_iff_toInt_lt, e] at h
    have : (0 : Int32).toInt = 0 := rfl
    omega
  · rw [e2] at h
    omega
/-- what is known of a class: its place, its words, its types, its names -/
def ab_CL (cl : List vw_C) (NF : Nat → Nat) (FT : Nat → Nat → Nat) (Ts : List Cond) (ci : Nat) (C : String) (T : u_T) : Prop :=
  cl[ci]? = some (C, T, NF ci) ∧ (∀ w ∈ u_ws C T (NF ci), w ∈ Ts) ∧ (∃ ty : Nat → FieldType, ∀ k, k < NF ci → parseFieldDescriptor (T k).2.2.1 = some (ty k) ∧ ab_tk (FT ci k) (ty k)) ∧ ∀ a, a < NF ci → ∀ b, b < NF ci → a ≠ b → (T a).2.1 ≠ (T b).2.1
def ab_tys (dA : Nat → ClassId) : List (ClassId × FieldType) := [(dA 0, .int), (dA 1, .long), (dA 2, .boolean), (dA 3, .array .int), (dA 4, .array .long)]
/-- a row's type -/
def ab_et (t : Nat) : FieldType := match t with
  | 0 => .int
  | 1 => .long
  | 2 => .boolean
  | 3 => .array .int
  | _ => .array .long
theorem ab_tys_at (dA : Nat → ClassId) {t : Nat} (h : t ≤ 4) : (ab_tys dA)[t]? = some (dA t, ab_et t) := by
  match t, h with
  | 0, _ => rfl
  | 1, _ => rfl
  | 2, _ => rfl
  | 3, _ => rfl
  | 4, _ => rfl
  | _ + 5, h => omega
theorem ab_et_tk {t : Nat} (h : t ≤ 4) : ab_tk t (ab_et t) := by
  match t, h with
  | 0, _ => rfl
  | 1, _ => rfl
  | 2, _ => rfl
  | 3, _ => rfl
  | 4, _ => rfl
  | _ + 5, h => omega
theorem ab_ty_def {t : Nat} : ab_ty t (defaultValue (ab_et t)) := by
  match t with
  | 0 => exact ⟨_, rfl⟩
  | 1 => exact ⟨_, rfl⟩
  | 2 => exact Or.inl rfl
  | _ + 3 => exact trivial
section R2
variable {p : Program} {l : Launch} {e : Env} {R : Room} {s : State} {m : MethodId} {args : Array Value} {below : List Frame} {meth : Method} {c : Code} {H : Heap} {locs : List Loc} {cells slots : Nat} {Q : State → Prop}
variable {cc : ByteArray} {pc : Nat} {ls : Array Slot} {rest : List Value}
variable {D : va_G} {cl : List vw_C} {dA : Nat → ClassId} {NF : Nat → Nat} {FT : Nat → Nat → Nat} {b B n : Nat} {ρ : Nat → Int} {Ts : List Cond}
/-- getfield -/
theorem ab_w30 (hx : p.tables.exec = Jvm.exec) (hb : c.code = cc) (hts : ∀ w ∈ Ts, w.before args s = true) {own C : String} {T : u_T} {ci index f a : Nat} {fs : ab_L} {tys : List (ClassId × FieldType)} (hown : s.vm.findClass own = some m.cls) (hK : va_K D cl tys s) (hCL : ab_CL cl NF FT Ts ci C T) (hk : f < NF ci)
    (hlink : Cond.fieldLink own index (T f).1 (T f).2.1 (T f).2.2.1 ∈ Ts) (hR : ab_RC D.1 D.2 dA NF FT b B n ρ (.inl (ci, fs)) H[a]?) (hd : decode cc pc = .ok (.getfield index, 3))
    (k : ∀ x, ab_RV b B n ρ (ab_fv FT ci fs f) x → W p l e R s m args below meth c H locs cells slots Q (F0 m (pc + 3) ls (x :: rest))) : W p l e R s m args below meth c H locs cells slots Q (F0 m pc ls (.ref a :: rest)) := by
  obtain ⟨V, ce, h1, h2, h3, h4, h5⟩ := hR
  obtain ⟨hc, hin, ⟨ty, hty⟩, hnm⟩ := hCL
  obtain ⟨hS, hfc, kC, hkC, hkind⟩ := hK.1 ci _ hc
  obtain ⟨cf, kf, fi, fd, hi, hsl⟩ := hS f hk
  refine W.getf hx hb hown (hts _ hlink) hi (u_facts hfc hkC (u_lays hts hin hk) hi).1 h1 (by rw [h3]; exact fun h => by cases h) (v := V f) ?_ rfl rfl hd (k _ (h5 f hk))
  rw [hsl]
  exact h4 f hk
theorem ab_fv_self {ci f : Nat} {v : ab_V} {fs : ab_L} : ab_fv FT ci ((f, v) :: fs) f = v := by
  unfold ab_fv
  rw [ab_lk_self]
theorem ab_fv_ne {ci f j : Nat} {v : ab_V} {fs : ab_L} (h : f ≠ j) : ab_fv FT ci ((f, v) :: fs) j = ab_fv FT ci fs j := by
  unfold ab_fv
  rw [ab_lk_ne _ _ h]
/-- putfield -/
theorem ab_w31 (hx : p.tables.exec = Jvm.exec) (hb : c.code = cc) (hts : ∀ w ∈ Ts, w.before args s = true) {own C : String} {T : u_T} {ci index f a : Nat} {fs : ab_L} {tys : List (ClassId × FieldType)} (hown : s.vm.findClass own = some m.cls) (hK : va_K D cl tys s) (hCL : ab_CL cl NF FT Ts ci C T) (hk : f < NF ci)
    (hlink : Cond.fieldLink own index (T f).1 (T f).2.1 (T f).2.2.1 ∈ Ts) (hfin : (T f).2.2.2 = true → meth.name = "<init>" ∧ (T f).1 = own) (hR : ab_RC D.1 D.2 dA NF FT b B n ρ (.inl (ci, fs)) H[a]?) (hd : decode cc pc = .ok (.putfield index, 3))
    {v : ab_V} {x : Value} (hv : ab_RV b B n ρ v x) (hft : ∀ ty, ab_tk (FT ci f) ty → narrow ty x = x ∧ fits ty x = true)
    (k : ∀ (H1 : Heap) (i : Nat), ab_RC D.1 D.2 dA NF FT b B n ρ (.inl (ci, (f, v) :: fs)) H1[a]? → H1.size = H.size → (∀ q : Nat, q ≠ a → H1[q]? = H[q]?) → W p l e R s m args below meth c H1 (locs ++ [⟨a, i⟩]) cells slots Q (F0 m (pc + 3) ls rest)) : W p l e R s m args below meth c H locs cells slots Q (F0 m pc ls (x :: .ref a :: rest)) := by
  obtain ⟨hc, hin, ⟨ty, hty⟩, hnm⟩ := hCL
  have hap := va_apart (own := own) hts hin ty (fun k hk => (hty k hk).1) hnm hK hc
  obtain ⟨V, ce, h1, h2, h3, h4, h5⟩ := hR
  obtain ⟨hS, hfc, kC, hkC, hkind⟩ := hK.1 ci _ hc
  obtain ⟨cf, kf, fi, fd, hi, hsl⟩ := hS f hk
  have hft' := hft _ (hty f hk).2
  have hst := (u_facts hfc hkC (u_lays hts hin hk) hi).1
  have hlay := hts _ (hin _ (u_in_lay hk))
  have hend : ∀ H1 : Heap, H1[a]? = some (ce.setSlot fd.slot x) → ab_RC D.1 D.2 dA NF FT b B n ρ (.inl (ci, (f, v) :: fs)) H1[a]? := fun H1 e1 => by
    refine ⟨updV V f x, _, e1, h2, h3, ?_, fun j hj => ?_⟩
    · rw [hsl]
      exact t_set h4 hap hk x
    · by_cases e : j = f
      · subst e
        rw [ab_fv_self]
        show ab_RV b B n ρ v (if j = j then x else V j)
        rw [if_pos rfl]
        exact hv
      · rw [ab_fv_ne (Ne.symm e)]
        show ab_RV b B n ρ _ (if j = f then x else V j)
        rw [if_neg e]
        exact h5 j hj
  unfold u_lay at hlay
  cases hf : (T f).2.2.2
  · rw [if_neg (by rw [hf]; decide)] at hlay
    have h6 := u_store hfc hkC hkind hlay hi (hty f hk).1 hft'.1 hft'.2
    refine W.putK hx hb (f := fd) ⟨hown, hts _ hlink, ⟨_, _, _, hi⟩, hst⟩ (by rw [h2]; exact h6) h1 h3 (by rw [hsl]; exact k2_hasslot (h4 f hk)) rfl rfl hd fun H' e1 e2 e3 => ?_
    exact k H' _ (hend H' e1) e2 e3
  · rw [if_pos hf] at hlay
    obtain ⟨hin2, hdecl⟩ := hfin hf
    have hcf : m.cls = cf := by
      obtain ⟨_, _, c', _, _, _, -, -, hf', -, -, -, hown2, -⟩ := Cond.laysFinal_spec hlay
      have e1 : c' = cf := by have := hi.symm.trans hf'; simp at this; exact this.1.symm
      rw [hdecl] at hown2
      rw [← e1]; exact Option.some.inj (hown.symm.trans hown2)
    have h6 := u_fits hfc hkC hkind (Or.inr hlay) hi (hty f hk).1 hft'.1 hft'.2
    refine W.putFinK hx hb hown (hts _ hlink) hi hst hcf hin2 (by rw [h2]; exact h6) h1 h3 (by rw [hsl]; exact k2_hasslot (h4 f hk)) rfl rfl hd fun H' e1 e2 e3 => ?_
    exact k H' _ (hend H' e1) e2 e3
/-- new -/
theorem ab_w32 (hx : p.tables.exec = Jvm.exec) (hb : c.code = cc) (hts : ∀ w ∈ Ts, w.before args s = true) {own C : String} {T : u_T} {ci index : Nat} {tys : List (ClassId × FieldType)} (hown : s.vm.findClass own = some m.cls) (hK : va_K D cl tys s) (hCL : ab_CL cl NF FT Ts ci C T)
    (hlink : Cond.classLink own index C ∈ Ts) (hinst : Cond.instantiable C (NF ci) ∈ Ts) (hini : (Cond.initialized C).before args s = true) (hcells : cells + 1 ≤ R.cells) (hslots : slots + NF ci ≤ R.slots) (hd : decode cc pc = .ok (.new index, 3))
    (k : ∀ H1 : Heap, ab_RC D.1 D.2 dA NF FT b B n ρ (.inl (ci, [])) H1[H.size]? → H1.size = H.size + 1 → (∀ q : Nat, q < H.size → H1[q]? = H[q]?) → W p l e R s m args below meth c H1 locs (cells + 1) (slots + NF ci) Q (F0 m (pc + 3) ls (.ref H.size :: rest))) : W p l e R s m args below meth c H locs cells slots Q (F0 m pc ls rest) := by
  obtain ⟨hc, hin, ⟨ty, hty⟩, hnm⟩ := hCL
  have hKn := hK.1 ci _ hc
  refine W.newcK hx hb hown (hts _ hlink) (hts _ hinst) hini rfl hd hcells hslots hKn.2.1 rfl fun H1 kC hkC e1 z1 o1 => k H1 ?_ z1 o1
  obtain ⟨ce, g1, g2, g3, g4⟩ := u_born ty hts hin hKn hkC e1 (fun k hk => (hty k hk).1)
  exact ⟨_, ce, g1, g2, g3, g4, fun j hj => ab_def_ok (hty j hj).2⟩
/-- newarray -/
def ab_k34 (ins : Instr) (t : Nat) : Prop := match ins with
  | .newarray a => newarray.typeOf a = ab_et t ∧ t ≤ 2
  | _ => False
theorem ab_w34 (hx : p.tables.exec = Jvm.exec) (hb : c.code = cc) (hts : ∀ w ∈ Ts, w.before args s = true) {t N : Nat} (hK : va_K D cl (ab_tys dA) s) {ins : Instr} (hk : ab_k34 ins t) (hw : Cond.arrayClass (ab_et t) ∈ Ts) (hN : N ≤ 1000000) (hcells : cells + 1 ≤ R.cells) (hslots : slots + N ≤ R.slots) (hd : decode cc pc = .ok (ins, 2))
    (k : ∀ H1 : Heap, ab_RC D.1 D.2 dA NF FT b B n ρ (.inr (t, N, some (ab_def t, []))) H1[H.size]? → H1.size = H.size + 1 → (∀ q : Nat, q < H.size → H1[q]? = H[q]?) → W p l e R s m args below meth c H1 locs (cells + 1) (slots + N) Q (F0 m (pc + 2) ls (.ref H.size :: rest))) : W p l e R s m args below meth c H locs cells slots Q (F0 m pc ls (.int (Int32.ofInt (.ofNat N)) :: rest)) := by
  unfold ab_k34 at hk
  split at hk
  · rename_i at0
    obtain ⟨e, ht⟩ := hk
    have hn : (Int32.ofInt (Int.ofNat N)).toInt = N := ab_t32 (by constructor <;> (try unfold ab_lo) <;> (try unfold ab_hi) <;> simp <;> omega)
    have hb0 : componentBytes (newarray.typeOf at0) ≤ 8 := by cases at0 <;> decide
    refine va_newaK hx hb (by rw [e]; exact hts _ hw) rfl hd (N := N) rfl (fun q => ?_) ?_ ?_ hcells hslots rfl fun H1 cA e1 z1 o1 hA hf => k H1 ?_ z1 o1
    · rw [Int32.lt_iff_toInt_lt, hn] at q
      have : (0 : Int32).toInt = 0 := rfl
      omega
    · show (Int32.ofInt (Int.ofNat N)).toInt.toNat = N
      rw [hn]; rfl
    · exact Nat.le_trans (Nat.mul_le_mul hN hb0) (by decide)
    · rw [e] at hf e1
      have hf2 := (hK.2 t _ (ab_tys_at dA (by omega))).2
      have ec : cA = dA t := by
        have h3 : s.vm.findClass ("[" ++ (ab_et t).toString) = some (dA t) := by
          match t, ht, hf2 with
          | 0, _, h => exact h
          | 1, _, h => exact h
          | 2, _, h => exact h
          | _ + 3, h, _ => omega
        exact Option.some.inj (hf.symm.trans h3)
      subst ec
      exact Or.inr ⟨by omega, hN, _, e1, fun j hj => ⟨ab_ty_def, ab_def_ok (ab_et_tk (by omega))⟩⟩
  · exact hk.elim
/-- array loads -/
def ab_k38 (ins : Instr) (t : Nat) : Prop := match ins with
  | .iaload => t = 0
  | .laload => t = 1
  | .baload => t = 2
  | .aaload => t = 3 ∨ t = 4
  | _ => False
theorem ab_w38 (hx : p.tables.exec = Jvm.exec) (hb : c.code = cc) {t N a : Nat} {zf : Nat → Value} (hK : va_K D cl (ab_tys dA) s) {ins : Instr} (hk : ab_k38 ins t) (hc : H[a]? = some (arrV (dA t) N zf)) (hN : N ≤ 1000000) {j : Int} (h0 : 0 ≤ j) (h1 : j < N) (hd : decode cc pc = .ok (ins, 1))
    (k : W p l e R s m args below meth c H locs cells slots Q (F0 m (pc + 1) ls (zf j.toNat :: rest))) : W p l e R s m args below meth c H locs cells slots Q (F0 m pc ls (.int (Int32.ofInt j) :: .ref a :: rest)) := by
  obtain ⟨e1, e2⟩ := ab_idx h0 h1 hN
  have hv : (arrV (dA t) N zf).slots[(Int32.ofInt j).toNatClampNeg]? = some (zf j.toNat) := by
    rw [e1]
    exact arrV_read _ _ (by omega)
  have hin : ¬ (Int32.ofInt j < 0 ∨ (arrV (dA t) N zf).slots.size ≤ (Int32.ofInt j).toNatClampNeg) := by rw [arrV_size]; exact e2
  unfold ab_k38 at hk
  split at hk
  · subst hk
    exact W.iald hx hb hc ((hK.2 0 _ rfl).1 N zf) (fun q => by cases q) hin hv rfl rfl hd k
  · subst hk
    exact W.lald hx hb hc ((hK.2 1 _ rfl).1 N zf) (fun q => by cases q) hin hv rfl rfl hd k
  · subst hk
    exact W.zald hx hb hc ((hK.2 2 _ rfl).1 N zf) (fun q => by cases q) hin hv rfl rfl hd k
  · rcases hk with rfl | rfl
    · exact W.aald hx hb hc ((hK.2 3 _ rfl).1 N zf) rfl (fun q => by cases q) hin hv rfl rfl hd k
    · exact W.aald hx hb hc ((hK.2 4 _ rfl).1 N zf) rfl (fun q => by cases q) hin hv rfl rfl hd k
  · exact hk.elim
/-- array stores -/
def ab_k39 (ins : Instr) (t : Nat) : Prop := match ins with
  | .iastore => t = 0
  | .lastore => t = 1
  | .bastore => t = 2
  | _ => False
theorem ab_w39 (hx : p.tables.exec = Jvm.exec) (hb : c.code = cc) {t N a : Nat} {zf : Nat → Value} (hK : va_K D cl (ab_tys dA) s) {ins : Instr} (hk : ab_k39 ins t) (hc : H[a]? = some (arrV (dA t) N zf)) (hN : N ≤ 1000000) {j : Int} (h0 : 0 ≤ j) (h1 : j < N) {x : Value} (hxt : ab_ty t x) (hd : decode cc pc = .ok (ins, 1))
    (k : ∀ H1 : Heap, H1[a]? = some (arrV (dA t) N (updV zf j.toNat x)) → H1.size = H.size → (∀ q : Nat, q ≠ a → H1[q]? = H[q]?) → W p l e R s m args below meth c H1 (locs ++ [⟨a, j.toNat⟩]) cells slots Q (F0 m (pc + 1) ls rest)) : W p l e R s m args below meth c H locs cells slots Q (F0 m pc ls (x :: .int (Int32.ofInt j) :: .ref a :: rest)) := by
  obtain ⟨e1, e2⟩ := ab_idx h0 h1 hN
  have hin : ¬ (Int32.ofInt j < 0 ∨ (arrV (dA t) N zf).slots.size ≤ (Int32.ofInt j).toNatClampNeg) := by rw [arrV_size]; exact e2
  unfold ab_k39 at hk
  split at hk
  · subst hk
    obtain ⟨v, rfl⟩ := hxt
    refine W.iast hx hb hc ((hK.2 0 _ rfl).1 N zf) (fun q => by cases q) hin rfl rfl hd fun H1 g1 g2 g3 => ?_
    rw [e1] at g1 ⊢
    exact k H1 (by rw [g1, arrV_store]) g2 g3
  · subst hk
    obtain ⟨v, rfl⟩ := hxt
    refine W.last hx hb hc ((hK.2 1 _ rfl).1 N zf) (fun q => by cases q) hin rfl rfl hd fun H1 g1 g2 g3 => ?_
    rw [e1] at g1 ⊢
    exact k H1 (by rw [g1, arrV_store]) g2 g3
  · subst hk
    obtain ⟨v, rfl, hn⟩ : ∃ v : Int32, x = .int v ∧ narrow .boolean (.int v) = .int v := by
      rcases hxt with rfl | rfl
      · exact ⟨0, rfl, rfl⟩
      · exact ⟨1, rfl, rfl⟩
    refine W.zast hx hb hc ((hK.2 2 _ rfl).1 N zf) (fun q => by cases q) hin rfl rfl hd fun H1 g1 g2 g3 => ?_
    rw [e1] at g1 ⊢
    rw [hn] at g1
    exact k H1 (by rw [g1, arrV_store]) g2 g3
  · exact hk.elim
/-- arraylength -/
theorem ab_w37 (hx : p.tables.exec = Jvm.exec) (hb : c.code = cc) {t N a : Nat} {zf : Nat → Value} (hK : va_K D cl (ab_tys dA) s) (ht : t ≤ 4) (hc : H[a]? = some (arrV (dA t) N zf)) (hd : decode cc pc = .ok (.arraylength, 1))
    (k : W p l e R s m args below meth c H locs cells slots Q (F0 m (pc + 1) ls (.int (Int32.ofInt (.ofNat N)) :: rest))) : W p l e R s m args below meth c H locs cells slots Q (F0 m pc ls (.ref a :: rest)) :=
  W.alen (n := Int32.ofInt (.ofNat N)) hx hb hc ((hK.2 t _ (ab_tys_at dA ht)).1 N zf) (by rw [arrV_size]; first | rfl | (simp; done) | exact (Int32.ofInt_eq_ofNat).symm) rfl rfl hd k
end R2
end
section
/-! THE LOOP'S PATTERN: where a state is an instance of it. -/
theorem ab_lk_mem {α : Type} {i : Nat} {v : α} : ∀ {l : List (Nat × α)}, ab_lk l i = some v → (i, v) ∈ l
  | [], h => by cases h
  | (j, w) :: l, h => by
    rw [ab_lk_cons] at h
    cases hb : Nat.beq j i
    · rw [hb] at h
      exact List.mem_cons_of_mem _ (ab_lk_mem h)
    · rw [hb] at h
      cases h
      rw [← show j = i from ab_beq hb]
      exact List.mem_cons_self
theorem ab_lk_mem2 {α : Type} {i : Nat} {v : α} : ∀ {l : List (Nat × α)}, (i, v) ∈ l → ∃ w, ab_lk l i = some w
  | [], h => by cases h
  | (j, w) :: l, h => by
    rw [ab_lk_cons]
    cases hb : Nat.beq j i
    · rcases List.mem_cons.mp h with h | h
      · cases h
        rw [show Nat.beq i i = true from Nat.beq_refl i] at hb
        cases hb
      · exact ab_lk_mem2 h
    · exact ⟨w, rfl⟩
/-- the pattern's variables are the state's and new ones -/
def ab_Inv (G Gg : ab_G) : Prop := G.1 ≤ Gg.1 ∧ Gg.2.2 = G.2.2 ∧ (∀ i, i < G.1 → ab_lk Gg.2.1 i = ab_lk G.2.1 i) ∧ (∀ (i : Nat) (p : Int × Int), ab_lk Gg.2.1 i = some p → i < Gg.1) ∧ ∀ i, i < Gg.1 → ∃ p, ab_lk Gg.2.1 i = some p
theorem ab_Inv.rf {ρ : Nat → Int} {G : ab_G} (hs : ab_Sat ρ G) : ab_Inv G G := ⟨Nat.le_refl _, rfl, fun _ _ => rfl, fun i p h => (hs.1 i p h).1, hs.2.1⟩
theorem ab_Inv.push {G Gg : ab_G} (h : ab_Inv G Gg) (p : Int × Int) : ab_Inv G (Gg.1 + 1, (Gg.1, p) :: Gg.2.1, Gg.2.2) := by
  obtain ⟨h1, h2, h3, h4, h5⟩ := h
  refine ⟨Nat.le_succ_of_le h1, h2, fun i hi => ?_, fun i q hq => ?_, fun i hi => ?_⟩
  · show ab_lk ((Gg.1, p) :: Gg.2.1) i = _
    rw [ab_lk_ne _ _ (show Gg.1 ≠ i by omega)]
    exact h3 i hi
  · have hq' : ab_lk ((Gg.1, p) :: Gg.2.1) i = some q := hq
    by_cases e : Gg.1 = i
    · show i < Gg.1 + 1
      omega
    · rw [ab_lk_ne _ _ e] at hq'
      exact Nat.lt_succ_of_lt (h4 i q hq')
  · show ∃ q, ab_lk ((Gg.1, p) :: Gg.2.1) i = some q
    by_cases e : Gg.1 = i
    · subst e
      exact ⟨p, ab_lk_self _ _ _⟩
    · rw [ab_lk_ne _ _ e]
      have hi' : i < Gg.1 + 1 := hi
      exact h5 i (by omega)
theorem ab_gl_ok {L0 : ab_L} {G0 G : ab_G} {f : ab_L → ab_G → Bool} : ∀ {bs : List (Nat × (Nat × Nat × Int) × (Nat × Nat × Int))} {L : ab_L} {Gg : ab_G}, ab_Inv G Gg → ab_gl L0 G0 bs f L Gg = true → ∃ L' G', f L' G' = true ∧ ab_Inv G G'
  | [], L, Gg, hI, h => ⟨L, Gg, h, hI⟩
  | q :: bs, L, Gg, hI, h => by
    have h' : (match ab_lk L q.1 with
      | some v => ab_gl L0 G0 bs f (ab_sto q.1 (ab_kn Gg.1 v) L) (Gg.1 + 1, (Gg.1, (ab_bd L0 G0 q.2.1, ab_bd L0 G0 q.2.2)) :: Gg.2.1, Gg.2.2)
      | none => ab_gl L0 G0 bs f L Gg) = true := h
    split at h'
    · exact ab_gl_ok (hI.push _) h'
    · exact ab_gl_ok hI h'
section LP
variable {BS : Nat → Option ab_C}
theorem ab_gf_ok {G : ab_G} {f : ab_H → ab_G → Bool} : ∀ {bs : List (Nat × Nat × Nat × Int × Int)} {h : ab_H} {Gg : ab_G}, ab_Inv G Gg → ab_gf BS bs f h Gg = true → ∃ h' G', f h' G' = true ∧ ab_Inv G G'
  | [], h, Gg, hI, e => ⟨h, Gg, e, hI⟩
  | q :: bs, h, Gg, hI, e => by
    have h' : (match ab_cl BS h q.1 with
      | some (.inl (ci, fs)) => ab_gf BS bs f (ab_put h q.1 (.inl (ci, (q.2.1, ab_kn Gg.1 (ab_def q.2.2.1)) :: fs))) (Gg.1 + 1, (Gg.1, (q.2.2.2.1, q.2.2.2.2)) :: Gg.2.1, Gg.2.2)
      | _ => ab_gf BS bs f h Gg) = true := e
    split at h'
    · exact ab_gf_ok (hI.push _) h'
    · exact ab_gf_ok hI h'
/-- what stands for the new variables, in numbers -/
noncomputable def ab_r1 (n : Nat) (ρ2 : Nat → Int) (σ : List (Nat × ab_S)) (i : Nat) : Int := if i < n then ρ2 i else match ab_lk σ i with
  | some s => ab_sv ρ2 s
  | none => 0
def ab_sig (n N n2 : Nat) (σ : List (Nat × ab_S)) : Prop := (∀ q ∈ σ, ab_oS n2 q.2) ∧ n ≤ N
theorem ab_ms1_ok {ρ2 : Nat → Int} {G2 : ab_G} (h2 : ab_Sat ρ2 G2) {a s : ab_S} (ha : ab_oS G2.1 a) (hs : ab_oS G2.1 s) (h : ab_ms1 G2 a s = true) : ab_sv ρ2 a = ab_sv ρ2 s := by
  rcases ab_or h with h | h
  · rw [ab_seq_iff h]
  · have e := ab_seq_iff h
    rw [← (ab_nm_ok h2 ha).2, ← (ab_nm_ok h2 hs).2, e]
theorem ab_ms_ok {ρ2 : Nat → Int} {G2 : ab_G} (h2 : ab_Sat ρ2 G2) {σ : List (Nat × ab_S)} {n N : Nat} (hn2 : n ≤ G2.1) (hσ : ∀ i s, n ≤ i → ab_lk σ i = some s → ab_oS G2.1 s ∧ i < N) (hnN : n ≤ N) {a s : ab_S} (hs : ab_oS G2.1 s) (h : ab_ms σ n G2 a s = true) : ab_oS N a ∧ ab_sv (ab_r1 n ρ2 σ) a = ab_sv ρ2 s := by
  cases a with
  | inl c => exact ⟨trivial, ab_ms1_ok (a := .inl c) h2 trivial hs h⟩
  | inr i =>
    have h' : (bif Nat.ble n i then (match ab_lk σ i with
      | some t => ab_ms1 G2 t s
      | none => false) else ab_ms1 G2 (.inr i) s) = true := h
    cases hb : Nat.ble n i
    · rw [hb, cond_false] at h'
      have hlt : i < n := by
        rcases Nat.lt_or_ge i n with q | q
        · exact q
        · rw [Nat.ble_eq_true_of_le q] at hb; cases hb
      refine ⟨Nat.lt_of_lt_of_le hlt hnN, ?_⟩
      rw [← ab_ms1_ok (a := .inr i) h2 (Nat.lt_of_lt_of_le hlt hn2) hs h']
      show ab_r1 n ρ2 σ i = ρ2 i
      unfold ab_r1
      rw [if_pos hlt]
    · rw [hb, cond_true] at h'
      have hle := ab_ble hb
      cases hl : ab_lk σ i with
      | none => rw [hl] at h'; cases h'
      | some t =>
        rw [hl] at h'
        have ht := hσ i t hle hl
        refine ⟨ht.2, ?_⟩
        rw [← ab_ms1_ok h2 ht.1 hs h']
        show ab_r1 n ρ2 σ i = _
        unfold ab_r1
        rw [if_neg (by omega), hl]
variable {dC : Nat → ClassId} {dI : Nat → Nat → Nat} {dA : Nat → ClassId} {NF : Nat → Nat} {FT : Nat → Nat → Nat} {b B : Nat}
/-- cells of numbers alone say the same under all -/
noncomputable def ab_cV : ab_V → Bool
  | .inl (.inl (.inl _)) => true
  | .inl (.inr (.inl _)) => true
  | .inr _ => true
  | _ => false
theorem ab_cV_ok {n n' : Nat} {ρ ρ' : Nat → Int} {v : ab_V} {x : Value} (h : ab_cV v = true) (hx : ab_RV b B n ρ v x) : ab_RV b B n' ρ' v x := by
  match v, h with
  | .inl (.inl (.inl c)), _ => exact hx
  | .inl (.inr (.inl c)), _ => exact hx
  | .inr (.inl _), _ => exact hx
  | .inr (.inr _), _ => exact hx
  | .inl (.inl (.inr _)), h => cases h
  | .inl (.inr (.inr _)), h => cases h
theorem ab_cV_def (t : Nat) : ab_cV (ab_def t) = true := by
  unfold ab_def
  cases Nat.beq t 1 <;> cases Nat.ble 3 t <;> rfl
section MT
variable {ρ2 : Nat → Int} {G2 : ab_G} (h2 : ab_Sat ρ2 G2) {σ : List (Nat × ab_S)} {n N : Nat} (hn2 : n ≤ G2.1) (hσ : ∀ i s, n ≤ i → ab_lk σ i = some s → ab_oS G2.1 s ∧ i < N) (hnN : n ≤ N)
theorem ab_mv_ok (h2 : ab_Sat ρ2 G2) (hn2 : n ≤ G2.1) (hσ : ∀ i s, n ≤ i → ab_lk σ i = some s → ab_oS G2.1 s ∧ i < N) (hnN : n ≤ N) {v w : ab_V} {x : Value} (hx : ab_RV b B G2.1 ρ2 w x) (h : ab_mv σ n G2 v w = true) : ab_RV b B N (ab_r1 n ρ2 σ) v x := by
  match v, w, h with
  | .inl (.inl a), .inl (.inl s), h =>
    obtain ⟨x1, x2, x3⟩ := hx
    obtain ⟨e1, e2⟩ := ab_ms_ok h2 hn2 hσ hnN x3 h
    exact ⟨by rw [e2]; exact x1, by rw [e2]; exact x2, e1⟩
  | .inl (.inr a), .inl (.inr s), h =>
    obtain ⟨x1, x2, x3⟩ := hx
    obtain ⟨e1, e2⟩ := ab_ms_ok h2 hn2 hσ hnN x3 h
    exact ⟨by rw [e2]; exact x1, by rw [e2]; exact x2, e1⟩
  | .inr (.inl a), .inr (.inl s), h =>
    rw [show a = s from ab_beq h]
    exact hx
  | .inr (.inr a), .inr (.inr s), h =>
    rw [show a = s from ab_beq h]
    exact hx
  | .inl (.inl _), .inl (.inr _), h => cases h
  | .inl (.inr _), .inl (.inl _), h => cases h
  | .inr (.inl _), .inr (.inr _), h => cases h
  | .inr (.inr _), .inr (.inl _), h => cases h
  | .inl (.inl _), .inr _, h => cases h
  | .inl (.inr _), .inr _, h => cases h
  | .inr (.inl _), .inl _, h => cases h
  | .inr (.inr _), .inl _, h => cases h
theorem ab_ml_at {L : ab_L} : ∀ {Lg : ab_L}, ab_ml σ n G2 Lg L = true → ∀ q ∈ Lg, ∃ w, ab_lk L q.1 = some w ∧ ab_mv σ n G2 q.2 w = true
  | [], _ => fun q hq => nomatch hq
  | p :: Lg, h => by
    have h' : (match ab_lk L p.1 with
      | some v => bif ab_mv σ n G2 p.2 v then ab_ml σ n G2 Lg L else false
      | none => false) = true := h
    cases hl : ab_lk L p.1 with
    | none => rw [hl] at h'; cases h'
    | some v =>
      rw [hl] at h'
      obtain ⟨a1, a2⟩ := ab_an h'
      intro q hq
      rcases List.mem_cons.mp hq with rfl | hq
      · exact ⟨v, hl, a1⟩
      · exact ab_ml_at a2 q hq
theorem ab_ml_R2 (h2 : ab_Sat ρ2 G2) (hn2 : n ≤ G2.1) (hσ : ∀ i s, n ≤ i → ab_lk σ i = some s → ab_oS G2.1 s ∧ i < N) (hnN : n ≤ N) {L : ab_L} {lv : List (Nat × Value)} (hr : ab_R2 b B G2.1 ρ2 L lv) : ∀ {Lg : ab_L}, (∀ q ∈ Lg, ∃ w, ab_lk L q.1 = some w ∧ ab_mv σ n G2 q.2 w = true) →
    ∃ lg, ab_R2 b B N (ab_r1 n ρ2 σ) Lg lg ∧ ∀ q ∈ lg, q ∈ lv
  | [], _ => ⟨[], trivial, fun q hq => nomatch hq⟩
  | p :: Lg, h => by
    obtain ⟨lg, g1, g2⟩ := ab_ml_R2 h2 hn2 hσ hnN hr (fun q hq => h q (List.mem_cons_of_mem _ hq))
    obtain ⟨w, hw, hm⟩ := h p List.mem_cons_self
    obtain ⟨x, hx, hv⟩ := hr.get hw
    refine ⟨(p.1, x) :: lg, ⟨rfl, ab_mv_ok h2 hn2 hσ hnN hv hm, g1⟩, fun q hq => ?_⟩
    rcases List.mem_cons.mp hq with rfl | hq
    · exact hx
    · exact g2 q hq
theorem ab_ml_RL (h2 : ab_Sat ρ2 G2) (hn2 : n ≤ G2.1) (hσ : ∀ i s, n ≤ i → ab_lk σ i = some s → ab_oS G2.1 s ∧ i < N) (hnN : n ≤ N) {nL : Nat} {L Lg : ab_L} {ls : Array Slot} (hr : ab_RL b B G2.1 ρ2 nL L ls) (h : ab_ml σ n G2 Lg L = true) : ab_RL b B N (ab_r1 n ρ2 σ) nL Lg ls := by
  obtain ⟨lv, h1, h3⟩ := hr
  obtain ⟨lg, g1, g2⟩ := ab_ml_R2 h2 hn2 hσ hnN h3 (ab_ml_at h)
  exact ⟨lg, ⟨h1.1, h1.2.1, fun q hq => h1.2.2 q (g2 q hq)⟩, g1⟩
theorem ab_leq_at (h2 : ab_Sat ρ2 G2) (hn2 : n ≤ G2.1) (hσ : ∀ i s, n ≤ i → ab_lk σ i = some s → ab_oS G2.1 s ∧ i < N) (hnN : n ≤ N) {d e : ab_V} (hd : ab_mv σ n G2 d e = true) {j : Nat} {x : Value} : ∀ {l m : ab_L}, ab_leq σ n G2 l m = true → ab_RV b B G2.1 ρ2 (ab_el e m j) x → ab_RV b B N (ab_r1 n ρ2 σ) (ab_el d l j) x
  | [], [], _, hx => ab_mv_ok h2 hn2 hσ hnN hx hd
  | [], _ :: _, h, _ => by cases h
  | _ :: _, [], h, _ => by cases h
  | q :: l, p :: m, h, hx => by
    have h' : (bif (bif Nat.beq q.1 p.1 then ab_mv σ n G2 q.2 p.2 else false) then ab_leq σ n G2 l m else false) = true := h
    obtain ⟨a1, a2⟩ := ab_an h'
    obtain ⟨a3, a4⟩ := ab_an a1
    obtain ⟨i, v⟩ := q
    obtain ⟨i2, w⟩ := p
    have ei : i = i2 := ab_beq a3
    subst ei
    by_cases e : i = j
    · subst e
      unfold ab_el at hx ⊢
      rw [ab_lk_self] at hx ⊢
      exact ab_mv_ok h2 hn2 hσ hnN hx a4
    · have ih := ab_leq_at h2 hn2 hσ hnN hd (j := j) (x := x) a2
      unfold ab_el at hx ih ⊢
      rw [ab_lk_ne _ _ e] at hx ⊢
      exact ih hx
theorem ab_mc_ok (h2 : ab_Sat ρ2 G2) (hn2 : n ≤ G2.1) (hσ : ∀ i s, n ≤ i → ab_lk σ i = some s → ab_oS G2.1 s ∧ i < N) (hnN : n ≤ N) {x y : ab_C} {oc : Option Cell} (h : ab_mc σ n G2 x y = true) (hr : ab_RC dC dI dA NF FT b B G2.1 ρ2 y oc) : ab_RC dC dI dA NF FT b B N (ab_r1 n ρ2 σ) x oc := by
  match x, y, h with
  | .inl (ci, fs), .inl (cj, gs), h =>
    obtain ⟨a1, a2⟩ := ab_an h
    have ec : ci = cj := ab_beq a1
    subst ec
    obtain ⟨V, ce, g1, g2, g3, g4, g5⟩ := hr
    refine ⟨V, ce, g1, g2, g3, g4, fun k hk => ?_⟩
    have g6 := g5 k hk
    have key : ∀ q, q ∈ fs ++ gs → q.1 = k → ∃ a c, ab_lk fs k = some a ∧ ab_lk gs k = some c ∧ ab_mv σ n G2 a c = true := fun q hq e => by
      have h9 := ab_all_mem a2 q hq
      rw [e] at h9
      cases hf : ab_lk fs k with
      | none => rw [hf] at h9; cases h9
      | some a =>
        cases hg : ab_lk gs k with
        | none => rw [hf, hg] at h9; cases h9
        | some c2 =>
          rw [hf, hg] at h9
          exact ⟨a, c2, rfl, rfl, h9⟩
    unfold ab_fv at g6 ⊢
    cases hf : ab_lk fs k with
    | some a =>
      obtain ⟨a', c', e1, e2, e3⟩ := key (k, a) (List.mem_append_left _ (ab_lk_mem hf)) rfl
      rw [hf] at e1
      cases e1
      rw [e2] at g6
      exact ab_mv_ok h2 hn2 hσ hnN g6 e3
    | none =>
      cases hg : ab_lk gs k with
      | some c2 =>
        obtain ⟨a', c', e1, e2, e3⟩ := key (k, c2) (List.mem_append_right _ (ab_lk_mem hg)) rfl
        rw [hf] at e1
        cases e1
      | none =>
        rw [hg] at g6
        show ab_RV b B N (ab_r1 n ρ2 σ) (ab_def (FT ci k)) (V k)
        exact ab_cV_ok (ab_cV_def _) g6
  | .inr (ty, m, none), .inr (tz, l, ct), h =>
    obtain ⟨a1, a2⟩ := ab_an h
    have e1 : ty = tz := ab_beq a1
    have e2 : m = l := ab_beq a2
    subst e1
    subst e2
    rcases hr with hr | ⟨g1, g2, z, g3, g4⟩
    · exact Or.inl hr
    · exact Or.inr ⟨g1, g2, z, g3, fun j hj => ⟨(g4 j hj).1, trivial⟩⟩
  | .inr (ty, m, some (d, a)), .inr (tz, l, some (e, c)), h =>
    obtain ⟨a1, a3⟩ := ab_an h
    obtain ⟨a2, a4⟩ := ab_an a3
    obtain ⟨a5, a6⟩ := ab_an a4
    have e1 : ty = tz := ab_beq a1
    have e2 : m = l := ab_beq a2
    subst e1
    subst e2
    rcases hr with hr | ⟨g1, g2, z, g3, g4⟩
    · exact Or.inl hr
    · exact Or.inr ⟨g1, g2, z, g3, fun j hj => ⟨(g4 j hj).1, ab_leq_at h2 hn2 hσ hnN a5 a6 (g4 j hj).2⟩⟩
  | .inr (ty, m, some (d, a)), .inr (tz, l, none), h => cases h
  | .inl (ci, fs), .inr (tz, l, ct), h => cases h
  | .inr (tz, l, none), .inl (ci, fs), h => cases h
  | .inr (tz, l, some (d, a)), .inl (ci, fs), h => cases h
end MT
noncomputable def ab_cC : ab_C → Bool
  | .inl (_, fs) => ab_all (fun q => ab_cV q.2) fs
  | .inr (_, _, none) => true
  | .inr (_, _, some (d, l)) => bif ab_cV d then ab_all (fun q => ab_cV q.2) l else false
theorem ab_cC_ok {n n' : Nat} {ρ ρ' : Nat → Int} {x : ab_C} {oc : Option Cell} (h : ab_cC x = true) (hr : ab_RC dC dI dA NF FT b B n ρ x oc) : ab_RC dC dI dA NF FT b B n' ρ' x oc := by
  match x, h with
  | .inl (ci, fs), h =>
    obtain ⟨V, ce, g1, g2, g3, g4, g5⟩ := hr
    refine ⟨V, ce, g1, g2, g3, g4, fun k hk => ab_cV_ok ?_ (g5 k hk)⟩
    unfold ab_fv
    cases hf : ab_lk fs k with
    | none => exact ab_cV_def _
    | some v => exact ab_all_mem (f := fun q : Nat × ab_V => ab_cV q.2) (l := fs) h (k, v) (ab_lk_mem hf)
  | .inr (ty, m, none), h =>
    rcases hr with hr | ⟨g1, g2, z, g3, g4⟩
    · exact Or.inl hr
    · exact Or.inr ⟨g1, g2, z, g3, g4⟩
  | .inr (ty, m, some (d, l)), h =>
    obtain ⟨a1, a2⟩ := ab_an h
    rcases hr with hr | ⟨g1, g2, z, g3, g4⟩
    · exact Or.inl hr
    · refine Or.inr ⟨g1, g2, z, g3, fun j hj => ⟨(g4 j hj).1, ab_cV_ok ?_ (g4 j hj).2⟩⟩
      unfold ab_el
      cases hf : ab_lk l j with
      | none => exact a1
      | some v => exact ab_all_mem (f := fun q : Nat × ab_V => ab_cV q.2) (l := l) a2 (j, v) (ab_lk_mem hf)
theorem ab_mh_ok (hBS : ∀ c x, BS c = some x → ab_cC x = true) {ρ2 : Nat → Int} {G2 : ab_G} (h2 : ab_Sat ρ2 G2) {σ : List (Nat × ab_S)} {n N : Nat} (hn2 : n ≤ G2.1) (hσ : ∀ i s, n ≤ i → ab_lk σ i = some s → ab_oS G2.1 s ∧ i < N) (hnN : n ≤ N) {hg h : ab_H} {H : Heap} (hm : ab_mh BS σ n G2 hg h = true) (hr : ab_RH dC dI dA NF FT BS b B G2.1 ρ2 h H) :
    ab_RH dC dI dA NF FT BS b B N (ab_r1 n ρ2 σ) hg H := by
  obtain ⟨a1, a2⟩ := ab_an hm
  have e1 : hg.1 = h.1 := ab_beq a1
  refine ⟨by rw [e1]; exact hr.1, by rw [e1]; exact hr.2.1, fun c x hx => ?_⟩
  have key : ∀ q, q ∈ hg.2 ++ h.2 → q.1 = c → ∃ y, ab_cl BS h c = some y ∧ ab_mc σ n G2 x y = true := fun q hq e => by
    have h9 := ab_all_mem a2 q hq
    rw [e, hx] at h9
    cases hy : ab_cl BS h c with
    | none => rw [hy] at h9; cases h9
    | some y => rw [hy] at h9; exact ⟨y, rfl, h9⟩
  have fin : (∃ y, ab_cl BS h c = some y ∧ ab_mc σ n G2 x y = true) → c < hg.1 ∧ ab_RC dC dI dA NF FT b B N (ab_r1 n ρ2 σ) x H[ab_ad b B c]? := fun ⟨y, h1, h3⟩ => by
    have h4 := hr.2.2 c y h1
    exact ⟨by rw [e1]; exact h4.1, ab_mc_ok h2 hn2 hσ hnN h3 h4.2⟩
  cases hf : ab_lk hg.2 c with
  | some v => exact fin (key (c, v) (List.mem_append_left _ (ab_lk_mem hf)) rfl)
  | none =>
    cases hg2 : ab_lk h.2 c with
    | some v => exact fin (key (c, v) (List.mem_append_right _ (ab_lk_mem hg2)) rfl)
    | none =>
      have hx' : BS c = some x := by
        unfold ab_cl at hx
        rw [hf] at hx
        exact hx
      have hy : ab_cl BS h c = some x := by
        unfold ab_cl
        rw [hg2]
        exact hx'
      have h4 := hr.2.2 c x hy
      exact ⟨by rw [e1]; exact h4.1, ab_cC_ok (hBS c x hx') h4.2⟩
/-- the bounds -/
theorem ab_bk_ok {σ : List (Nat × ab_S)} {n : Nat} {Gg G2 : ab_G} (h : ab_bk σ n Gg G2 = true) : ∀ i, n ≤ i → i < Gg.1 → ∃ s, ab_lk σ i = some s ∧ ab_oS G2.1 s ∧ (ab_ivI Gg i).1 ≤ (ab_ivS G2 s).1 ∧ (ab_ivS G2 s).2 ≤ (ab_ivI Gg i).2 := by
  have go : ∀ m : Nat, (Nat.rec (motive := fun _ => Bool) true (fun j r => bif (match ab_lk σ (n + j) with
    | some s => bif (bif ab_os G2.1 s then ab_le (ab_ivI Gg (n + j)).1 (ab_ivS G2 s).1 else false) then ab_le (ab_ivS G2 s).2 (ab_ivI Gg (n + j)).2 else false
    | none => false) then r else false) m : Bool) = true → ∀ j, j < m → ∃ s, ab_lk σ (n + j) = some s ∧ ab_oS G2.1 s ∧ (ab_ivI Gg (n + j)).1 ≤ (ab_ivS G2 s).1 ∧ (ab_ivS G2 s).2 ≤ (ab_ivI Gg (n + j)).2 := by
    intro m
    induction m with
    | zero => intro _ j hj; omega
    | succ m ih =>
      intro hm j hj
      obtain ⟨a1, a2⟩ := ab_an hm
      by_cases e : j = m
      · subst e
        cases hl : ab_lk σ (n + j) with
        | none => rw [hl] at a1; cases a1
        | some s =>
          rw [hl] at a1
          obtain ⟨a3, a4⟩ := ab_an a1
          obtain ⟨a5, a6⟩ := ab_an a3
          refine ⟨s, rfl, ?_, (ab_le_iff _ _).mp a6, (ab_le_iff _ _).mp a4⟩
          cases s with
          | inl c => trivial
          | inr i => exact ab_ble a5
      · exact ih a2 j (by omega)
  intro i h1 h3
  have := go (Gg.1 - n) h (i - n) (by omega)
  rw [show n + (i - n) = i by omega] at this
  exact this
/-- what is gathered is of the pattern's variables -/
theorem ab_bv_ok {n N : Nat} {G2 : ab_G} {v w : ab_V} {r : List (Nat × ab_S)} (hr : ∀ q ∈ r, q.1 < N) : ∀ q ∈ ab_bv n N G2 v w r, q.1 < N := by
  have key : ∀ i s, ∀ q ∈ (bif (bif Nat.ble n i then Nat.ble (i + 1) N else false) then (i, ab_nm G2 s) :: r else r), q.1 < N := by
    intro i s q hq
    cases hb : (bif Nat.ble n i then Nat.ble (i + 1) N else false)
    · rw [hb] at hq
      exact hr q hq
    · rw [hb] at hq
      rcases List.mem_cons.mp hq with rfl | hq
      · exact ab_ble (ab_an hb).2
      · exact hr q hq
  unfold ab_bv
  split
  · exact key _ _
  · exact key _ _
  · exact hr
theorem ab_bl_ok {n N : Nat} {G2 : ab_G} {L : ab_L} {r : List (Nat × ab_S)} (hr : ∀ q ∈ r, q.1 < N) : ∀ Lg : ab_L, ∀ q ∈ ab_bl n N G2 Lg L r, q.1 < N
  | [] => hr
  | q :: Lg => by
    have ih := ab_bl_ok (n := n) (G2 := G2) (L := L) hr Lg
    show ∀ z ∈ (match ab_lk L q.1 with
      | some w => ab_bv n N G2 q.2 w (ab_bl n N G2 Lg L r)
      | none => ab_bl n N G2 Lg L r), z.1 < N
    cases hl : ab_lk L q.1 with
    | none => exact ih
    | some w => exact ab_bv_ok ih
theorem ab_bh_ok {n N : Nat} {G2 : ab_G} {hg h : ab_H} : ∀ fs : List (Nat × Nat × Nat × Int × Int), ∀ q ∈ ab_bh BS n N G2 hg h fs, q.1 < N
  | [] => fun q hq => nomatch hq
  | f :: fs => by
    have ih := ab_bh_ok (n := n) (N := N) (G2 := G2) (hg := hg) (h := h) fs
    show ∀ z ∈ (match ab_cl BS hg f.1, ab_cl BS h f.1 with
      | some (.inl (_, fg)), some (.inl (_, fa)) => (match ab_lk fg f.2.1, ab_lk fa f.2.1 with
        | some v, some w => ab_bv n N G2 v w (ab_bh BS n N G2 hg h fs)
        | _, _ => ab_bh BS n N G2 hg h fs)
      | _, _ => ab_bh BS n N G2 hg h fs), z.1 < N
    split
    · split
      · exact ab_bv_ok ih
      · exact ih
    · exact ih
/-- an instance of the pattern -/
def ab_In (dC : Nat → ClassId) (dI : Nat → Nat → Nat) (dA : Nat → ClassId) (NF : Nat → Nat) (FT : Nat → Nat → Nat) (BS : Nat → Option ab_C) (b B nL n : Nat) (ρ : Nat → Int) (Gg : ab_G) (Lg : ab_L) (hg : ab_H) (ρ1 : Nat → Int) (ls : Array Slot) (H : Heap) : Prop :=
  ab_Ext n ρ Gg.1 ρ1 ∧ ab_Sat ρ1 Gg ∧ ab_RL b B Gg.1 ρ1 nL Lg ls ∧ ab_RH dC dI dA NF FT BS b B Gg.1 ρ1 hg H
theorem ab_mt_ok (hBS : ∀ c x, BS c = some x → ab_cC x = true) {fs : List (Nat × Nat × Nat × Int × Int)} {ρ ρ2 : Nat → Int} {G Gg G2 : ab_G} {Lg L2 : ab_L} {hg h2' : ab_H} {nL : Nat} {ls : Array Slot} {H : Heap} (hG : ab_Sat ρ G) (hI : ab_Inv G Gg) (h2 : ab_Sat ρ2 G2) (hE : ab_Ext G.1 ρ G2.1 ρ2)
    (hm : ab_mt BS fs G.1 Gg G2 Lg L2 hg h2' = true) (hL : ab_RL b B G2.1 ρ2 nL L2 ls) (hH : ab_RH dC dI dA NF FT BS b B G2.1 ρ2 h2' H) :
    ∃ ρ1, ab_In dC dI dA NF FT BS b B nL G.1 ρ Gg Lg hg ρ1 ls H ∧
      (∀ r i m, ab_lk Lg r = some (.inl (.inl (.inr i))) → ab_lk L2 r = some (.inl (.inl m)) → ρ1 i = ab_sv ρ2 m) ∧ (∀ r i m, ab_lk Lg r = some (.inl (.inr (.inr i))) → ab_lk L2 r = some (.inl (.inr m)) → ρ1 i = ab_sv ρ2 m) := by
  have hm' : ab_mt2 BS G.1 Gg G2 Lg L2 hg h2' (ab_bl G.1 Gg.1 G2 Lg L2 (ab_bh BS G.1 Gg.1 G2 hg h2' fs)) = true := hm
  have hσ0 := ab_bl_ok (n := G.1) (N := Gg.1) (G2 := G2) (L := L2) (ab_bh_ok (BS := BS) (n := G.1) (N := Gg.1) (G2 := G2) (hg := hg) (h := h2') fs) Lg
  generalize ab_bl G.1 Gg.1 G2 Lg L2 (ab_bh BS G.1 Gg.1 G2 hg h2' fs) = σ at hm' hσ0
  obtain ⟨a1, a2⟩ := ab_an hm'
  obtain ⟨a3, a4⟩ := ab_an a2
  have hb := ab_bk_ok a1
  obtain ⟨i1, i2, i3, i4, i5⟩ := hI
  -- where the lookup is of a pattern's own variable its scalar is the state's
  have hσ' : ∀ i s, G.1 ≤ i → ab_lk σ i = some s → ab_oS G2.1 s ∧ i < Gg.1 := fun i s hi hs => by
    have hlt := hσ0 (i, s) (ab_lk_mem hs)
    obtain ⟨s', e1, e2, -⟩ := hb i hi hlt
    rw [hs] at e1
    cases e1
    exact ⟨e2, hlt⟩
  have hlow : ∀ i, i < G.1 → ab_r1 G.1 ρ2 σ i = ρ i := fun i hi => by
    unfold ab_r1
    rw [if_pos hi]
    exact hE.2 i hi
  have hExt : ab_Ext G.1 ρ Gg.1 (ab_r1 G.1 ρ2 σ) := ⟨i1, hlow⟩
  refine ⟨ab_r1 G.1 ρ2 σ, ⟨hExt, ⟨fun i p hp => ?_, i5, fun f hf => ?_, fun d hd => ?_⟩, ab_ml_RL h2 hE.1 hσ' i1 hL a3, ab_mh_ok hBS h2 hE.1 hσ' i1 a4 hH⟩, fun r i m h1 h3 => ?_, fun r i m h1 h3 => ?_⟩
  · refine ⟨i4 i p hp, ?_⟩
    by_cases hi : i < G.1
    · rw [i3 i hi] at hp
      rw [hlow i hi]
      exact (hG.1 i p hp).2
    · have hi' : G.1 ≤ i := by omega
      obtain ⟨s, e1, e2, e3, e4⟩ := hb i hi' (i4 i p hp)
      have hv := ab_iv_ok h2 e2
      have ep : ab_ivI Gg i = p := by unfold ab_ivI; rw [hp]
      rw [ep] at e3 e4
      have er : ab_r1 G.1 ρ2 σ i = ab_sv ρ2 s := by unfold ab_r1; rw [if_neg hi, e1]
      rw [er]
      exact ⟨Int.le_trans e3 hv.1, Int.le_trans hv.2 e4⟩
  · rw [i2] at hf
    obtain ⟨f1, f2, f3, f4⟩ := hG.2.2.1 f hf
    exact ⟨hExt.oS f1, hExt.oS f2, f3, by rw [hExt.sv f1, hExt.sv f2]; exact f4⟩
  · rw [i2] at hd
    obtain ⟨f1, f2, f3, f4⟩ := hG.2.2.2 d hd
    exact ⟨hExt.oS f1, hExt.oS f2, Nat.lt_of_lt_of_le f3 i1, by rw [hlow _ f3, hExt.sv f1, hExt.sv f2]; exact f4⟩
  · obtain ⟨w, e1, e2⟩ := ab_ml_at a3 (r, _) (ab_lk_mem h1)
    have e1' : ab_lk L2 r = some w := e1
    rw [h3] at e1'
    cases e1'
    obtain ⟨x, -, hx⟩ := hL.get h3
    exact (ab_ms_ok (a := .inr i) h2 hE.1 hσ' i1 hx.2.2 e2).2
  · obtain ⟨w, e1, e2⟩ := ab_ml_at a3 (r, _) (ab_lk_mem h1)
    have e1' : ab_lk L2 r = some w := e1
    rw [h3] at e1'
    cases e1'
    obtain ⟨x, -, hx⟩ := hL.get h3
    exact (ab_ms_ok (a := .inr i) h2 hE.1 hσ' i1 hx.2.2 e2).2
/-- the local that moves -/
theorem ab_mvd_ok {ρ2 : Nat → Int} {G2 : ab_G} (h2 : ab_Sat ρ2 G2) {up i m : Nat} (hi : i < G2.1) : ∀ {l : List ab_D}, (∀ d ∈ l, d ∈ G2.2.2.2) → ab_mvd G2 up i m l = true → (up = 1 ∧ ρ2 i + 1 ≤ ρ2 m) ∨ (up ≠ 1 ∧ ρ2 m + 1 ≤ ρ2 i)
  | [], _, h => by cases h
  | (op, a, c, r) :: l, hl, h => by
    have ih := fun q => ab_mvd_ok h2 hi (l := l) (up := up) (m := m) (fun d hd => hl d (List.mem_cons_of_mem _ hd)) q
    have hd := h2.2.2.2 (op, a, c, r) (hl _ List.mem_cons_self)
    obtain ⟨d1, d2, d3, d4⟩ := hd
    dsimp only at d1 d2 d3 d4
    have rem : ∀ j, c = .inr j → (bif Nat.beq r m then (bif (bif (bif Nat.beq op 4 then Nat.beq j i else false) then Nat.beq up 0 else false) then ab_le 1 (ab_ivI G2 i).1 else ab_mvd G2 up i m l) else ab_mvd G2 up i m l) = true → (up = 1 ∧ ρ2 i + 1 ≤ ρ2 m) ∨ (up ≠ 1 ∧ ρ2 m + 1 ≤ ρ2 i) := fun j hc h' => by
      subst hc
      cases hr : Nat.beq r m
      · rw [hr] at h'
        exact ih h'
      · rw [hr, cond_true] at h'
        have er : r = m := ab_beq hr
        subst er
        rcases ab_if h' with ⟨e1, e2⟩ | ⟨e1, e2⟩
        · obtain ⟨e3, e7⟩ := ab_an e1
          obtain ⟨e3, e4⟩ := ab_an e3
          have eo : op = 4 := ab_beq e3
          have ej : j = i := ab_beq e4
          have eu : up = 0 := ab_beq e7
          subst eo
          subst ej
          have d5 : ρ2 r = (ab_sv ρ2 a).tmod (ρ2 j) := d4
          have h1 := (ab_le_iff _ _).mp e2
          have h3 := ab_iv_ok h2 (s := .inr j) hi
          have h4 : (1 : Int) ≤ ρ2 j := Int.le_trans h1 h3.1
          have h5 := ab_tm_pos (a := ab_sv ρ2 a) h4
          exact Or.inr ⟨by omega, by omega⟩
        · exact ih e2
    cases c with
    | inr j => cases a with
      | inl _ => exact rem j rfl h
      | inr _ => exact rem j rfl h
    | inl c => cases a with
      | inl _ =>
        have h' : (bif Nat.beq r m then ab_mvd G2 up i m l else ab_mvd G2 up i m l) = true := h
        cases hr : Nat.beq r m <;> rw [hr] at h' <;> exact ih h'
      | inr j =>
        have h' : (bif Nat.beq r m then (bif (bif Nat.beq op 0 then Nat.beq j i else false) then (bif Nat.beq up 1 then ab_le 1 c else ab_le c (-1)) else ab_mvd G2 up i m l) else ab_mvd G2 up i m l) = true := h
        cases hr : Nat.beq r m
        · rw [hr] at h'
          exact ih h'
        · rw [hr, cond_true] at h'
          have er : r = m := ab_beq hr
          subst er
          rcases ab_if h' with ⟨e1, e2⟩ | ⟨e1, e2⟩
          · obtain ⟨e3, e4⟩ := ab_an e1
            have eo : op = 0 := ab_beq e3
            have ej : j = i := ab_beq e4
            subst eo
            subst ej
            have d5 : ρ2 r = ρ2 j + c := d4
            rcases ab_if e2 with ⟨e5, e6⟩ | ⟨e5, e6⟩
            · have := (ab_le_iff _ _).mp e6
              exact Or.inl ⟨ab_beq e5, by omega⟩
            · have := (ab_le_iff _ _).mp e6
              exact Or.inr ⟨Nat.ne_of_beq_eq_false e5, by omega⟩
          · exact ih e2
theorem ab_rk2_ok {ρ2 : Nat → Int} {G2 : ab_G} (h2 : ab_Sat ρ2 G2) {up i : Nat} {m : ab_S} (hi : i < G2.1) (hm : ab_oS G2.1 m) (h : ab_rk2 G2 up i m = true) : (up = 1 ∧ ρ2 i + 1 ≤ ab_sv ρ2 m) ∨ (up ≠ 1 ∧ ab_sv ρ2 m + 1 ≤ ρ2 i) := by
  have v1 : (ab_ivI G2 i).1 ≤ ρ2 i ∧ ρ2 i ≤ (ab_ivI G2 i).2 := ab_iv_ok h2 (s := .inr i) hi
  have v2 := ab_iv_ok h2 hm
  unfold ab_rk2 at h
  rcases ab_if h with ⟨q, -⟩ | ⟨-, q⟩
  · rcases ab_if q with ⟨e1, e2⟩ | ⟨e1, e2⟩
    · have := (ab_le_iff _ _).mp e2
      exact Or.inl ⟨ab_beq e1, by omega⟩
    · have := (ab_le_iff _ _).mp e2
      exact Or.inr ⟨Nat.ne_of_beq_eq_false e1, by omega⟩
  · cases m with
    | inl c => cases q
    | inr m => exact ab_mvd_ok h2 hi (fun d hd => hd) q
theorem ab_rk_ok {ρ2 : Nat → Int} {G2 : ab_G} (h2 : ab_Sat ρ2 G2) {r up : Nat} {Lg L2 : ab_L} (hi : ∀ i, (ab_lk Lg r = some (.inl (.inl (.inr i))) ∨ ab_lk Lg r = some (.inl (.inr (.inr i)))) → i < G2.1) (hm : ∀ s, (ab_lk L2 r = some (.inl (.inl s)) ∨ ab_lk L2 r = some (.inl (.inr s))) → ab_oS G2.1 s) (h : ab_rk r up Lg L2 G2 = true) :
    ∃ i m, ((ab_lk Lg r = some (.inl (.inl (.inr i))) ∧ ab_lk L2 r = some (.inl (.inl m))) ∨ (ab_lk Lg r = some (.inl (.inr (.inr i))) ∧ ab_lk L2 r = some (.inl (.inr m)))) ∧ ((up = 1 ∧ ρ2 i + 1 ≤ ab_sv ρ2 m) ∨ (up ≠ 1 ∧ ab_sv ρ2 m + 1 ≤ ρ2 i)) := by
  unfold ab_rk at h
  split at h
  · rename_i i m e1 e2
    exact ⟨i, m, Or.inl ⟨e1, e2⟩, ab_rk2_ok h2 (hi i (Or.inl e1)) (hm m (Or.inl e2)) h⟩
  · rename_i i m e1 e2
    exact ⟨i, m, Or.inr ⟨e1, e2⟩, ab_rk2_ok h2 (hi i (Or.inr e1)) (hm m (Or.inr e2)) h⟩
  · cases h
end LP
end
section
/-! WHAT THE TABLES MUST SAY of a method's rows; what a walk that went well says of the machine. -/
/-- the tables: 0 methods 1 hints 2 how many fields 3 a field's type 4 the cells at the start 5 a method's name 6 its code 7 its locals 8 its type 9, 10 its room, frames and locals 11 words 12 words that move 13 exceptions 14 classes 15 the classes' list 16 how many classes 17 handlers 18 classes that are no others' -/
abbrev ab_ZT : Type := (Nat → ab_M) × (Nat → Nat → Option ab_B) × (Nat → Nat) × (Nat → Nat → Nat) × (Nat → Option ab_C) × (Nat → MethodName) × (Nat → ByteArray) × (Nat → Nat) × (Nat → Option FieldType) × (Nat → Nat) × (Nat → Nat) × List Cond × List Cond × (Nat → String) × (Nat → String × u_T) × List vw_C × Nat × (Nat → List (Nat × Nat × Nat × Nat)) × List (String × String)
abbrev ab_zP (Z : ab_ZT) := Z.1
abbrev ab_zHS (Z : ab_ZT) := Z.2.1
abbrev ab_zNF (Z : ab_ZT) := Z.2.2.1
abbrev ab_zFT (Z : ab_ZT) := Z.2.2.2.1
abbrev ab_zBS (Z : ab_ZT) := Z.2.2.2.2.1
abbrev ab_zY (Z : ab_ZT) := Z.2.2.2.2.2.1
abbrev ab_zCB (Z : ab_ZT) := Z.2.2.2.2.2.2.1
abbrev ab_zML (Z : ab_ZT) := Z.2.2.2.2.2.2.2.1
abbrev ab_zRT (Z : ab_ZT) := Z.2.2.2.2.2.2.2.2.1
abbrev ab_zFR (Z : ab_ZT) := Z.2.2.2.2.2.2.2.2.2.1
abbrev ab_zLO (Z : ab_ZT) := Z.2.2.2.2.2.2.2.2.2.2.1
abbrev ab_zTW (Z : ab_ZT) := Z.2.2.2.2.2.2.2.2.2.2.2.1
abbrev ab_zNW (Z : ab_ZT) := Z.2.2.2.2.2.2.2.2.2.2.2.2.1
abbrev ab_zEN (Z : ab_ZT) := Z.2.2.2.2.2.2.2.2.2.2.2.2.2.1
abbrev ab_zCT (Z : ab_ZT) := Z.2.2.2.2.2.2.2.2.2.2.2.2.2.2.1
abbrev ab_zcl (Z : ab_ZT) := Z.2.2.2.2.2.2.2.2.2.2.2.2.2.2.2.1
abbrev ab_zNC (Z : ab_ZT) := Z.2.2.2.2.2.2.2.2.2.2.2.2.2.2.2.2.1
abbrev ab_zHT (Z : ab_ZT) := Z.2.2.2.2.2.2.2.2.2.2.2.2.2.2.2.2.2.1
abbrev ab_zNX (Z : ab_ZT) := Z.2.2.2.2.2.2.2.2.2.2.2.2.2.2.2.2.2.2
/-- what a launch fixes: class numbers and slots, row types' classes, the script's address, the first new address -/
abbrev ab_UT : Type := va_G × (Nat → ClassId) × Nat × Nat
/-- a state's heap against the walker's -/
abbrev ab_rH (Z : ab_ZT) (U : ab_UT) (n : Nat) (ρ : Nat → Int) (h : ab_H) (H : Heap) : Prop := ab_RH U.1.1 U.1.2 U.2.1 (ab_zNF Z) (ab_zFT Z) (ab_zBS Z) U.2.2.1 U.2.2.2 n ρ h H
abbrev ab_rC (Z : ab_ZT) (U : ab_UT) (n : Nat) (ρ : Nat → Int) (x : ab_C) (oc : Option Cell) : Prop := ab_RC U.1.1 U.1.2 U.2.1 (ab_zNF Z) (ab_zFT Z) U.2.2.1 U.2.2.2 n ρ x oc
abbrev ab_rV (U : ab_UT) (n : Nat) (ρ : Nat → Int) (v : ab_V) (x : Value) : Prop := ab_RV U.2.2.1 U.2.2.2 n ρ v x
abbrev ab_rS (U : ab_UT) (n : Nat) (ρ : Nat → Int) (S : List ab_V) (st : List Value) : Prop := ab_RS U.2.2.1 U.2.2.2 n ρ S st
abbrev ab_rL (U : ab_UT) (n : Nat) (ρ : Nat → Int) (nL : Nat) (L : ab_L) (ls : Array Slot) : Prop := ab_RL U.2.2.1 U.2.2.2 n ρ nL L ls
/-- new addresses -/
def ab_nA (U : ab_UT) (q : Nat) : Prop := U.2.2.2 ≤ q
/-- the array of rows of longs -/
def ab_AOT (ty : FieldType) (U : State) : Prop := (Cond.arrayOver (.array ty)).before #[] U = true
abbrev ab_AOA (U : State) : Prop := ab_AOT .long U
/-- what holds of every state of the launch from the start on -/
def ab_KH (Z : ab_ZT) (U : ab_UT) (st : State) : Prop := va_K U.1 (ab_zcl Z) (ab_tys U.2.1) st ∧ (∀ w ∈ ab_zNW Z, va_Nw w st) ∧ ab_AOA st ∧ (∀ q ∈ ab_zNX Z, va_Nc q.1 q.2 st) ∧ vx_Zq Bundle.tN "UNASSIGNED_STACK" Bundle.steD (ab_nA U) st st.heap ∧ vx_Zq Bundle.tN "SUPPRESSED_SENTINEL" Bundle.listD (ab_nA U) st st.heap ∧ ab_AOT .int st
/-- a place of a method's rows by its number -/
def ab_tg (Z : ab_ZT) (y x tgt : Nat) : Prop := ∀ e r, ab_dr x (ab_zP Z y).1 = e :: r → e.1 = tgt
/-- a return's instruction, its value -/
def ab_kr (ret : Option FieldType) (st : List Value) (ins : Instr) : Prop := match ins with
  | .return_ => ret = none ∧ st = []
  | .ireturn => (ret = some .int ∧ ∃ v, st = [.int v]) ∨ (ret = some .boolean ∧ ∃ v, st = [.int v] ∧ narrow .boolean (.int v) = .int v)
  | .lreturn => ret = some .long ∧ ∃ v, st = [.long v]
  | .areturn => (∃ rt, ret = some rt ∧ ((∃ n, rt = .object n) ∨ ∃ t, rt = .array t)) ∧ ∃ a, st = [.ref a]
  | _ => False
end
section
/-! ONE STEP of a walk that went well, by the rows that touch locals, stack and numbers alone. -/
/-- program, launch, world, room, the frame's start, method, arguments, frames below, method, code, what is owed -/
abbrev ab_XT : Type := Program × Launch × Env × Room × State × MethodId × Array Value × List Frame × Method × Code × (State → Prop)
abbrev ab_xs (X : ab_XT) : State := X.2.2.2.2.1
abbrev ab_xm (X : ab_XT) : MethodId := X.2.2.2.2.2.1
abbrev ab_xc (X : ab_XT) : Code := X.2.2.2.2.2.2.2.2.2.1
abbrev ab_xR (X : ab_XT) : Room := X.2.2.2.1
abbrev ab_xA (X : ab_XT) : Array Value := X.2.2.2.2.2.2.1
abbrev ab_xM (X : ab_XT) : Method := X.2.2.2.2.2.2.2.2.1
abbrev ab_W (X : ab_XT) (H : Heap) (locs : List Loc) (cn sn : Nat) (g : JFrame) : Prop := W X.1 X.2.1 X.2.2.1 X.2.2.2.1 X.2.2.2.2.1 X.2.2.2.2.2.1 X.2.2.2.2.2.2.1 X.2.2.2.2.2.2.2.1 X.2.2.2.2.2.2.2.2.1 X.2.2.2.2.2.2.2.2.2.1 H locs cn sn X.2.2.2.2.2.2.2.2.2.2 g
abbrev ab_WX (X : ab_XT) (H : Heap) (locs : List Loc) (cn sn : Nat) (g : JFrame) (q : Addr) : Prop := vx_W X.1 X.2.1 X.2.2.1 X.2.2.2.1 X.2.2.2.2.1 X.2.2.2.2.2.1 X.2.2.2.2.2.2.1 X.2.2.2.2.2.2.2.1 X.2.2.2.2.2.2.2.2.1 X.2.2.2.2.2.2.2.2.2.1 H locs cn sn X.2.2.2.2.2.2.2.2.2.2 g q
/-- what the handlers' table does with an exception -/
def ab_ET (Z : ab_ZT) (y : Nat) (X : ab_XT) : Prop := ((ab_zP Z y).2.2.2 = [] → ∀ x ∈ (ab_xc X).exceptionTable.toList, False) ∧ ∀ pc e g, ab_han pc e (ab_zP Z y).2.2.2 = some g →
  ∃ (pre : List ExceptionTableEntry) (x : ExceptionTableEntry) (suf : List ExceptionTableEntry) (name : String), (ab_xc X).exceptionTable.toList = pre ++ x :: suf ∧ (∀ z ∈ pre, covers z pc = false ∨ (z.catchType ≠ 0 ∧ ∃ nm : String, (Cond.classLink (ab_zY Z y).cls z.catchType nm).before (ab_xA X) (ab_xs X) = true ∧ va_Nc (ab_zEN Z e) nm (ab_xs X))) ∧
    covers x pc = true ∧ x.catchType ≠ 0 ∧ (Cond.classLink (ab_zY Z y).cls x.catchType name).before (ab_xA X) (ab_xs X) = true ∧ (Cond.castable (ab_zEN Z e) name).before (ab_xA X) (ab_xs X) = true ∧ ab_tg Z y g x.handlerPc
/-- a frame of method y -/
def ab_Cx (Z : ab_ZT) (U : ab_UT) (y : Nat) (X : ab_XT) : Prop :=
  X.1.tables.exec = Jvm.exec ∧ (ab_xc X).code = ab_zCB Z y ∧ (ab_xc X).maxLocals = ab_zML Z y ∧ (ab_xs X).vm.findClass (ab_zY Z y).cls = some (ab_xm X).cls ∧ (ab_xM X).name = (ab_zY Z y).name ∧ (ab_xM X).sig.returnType = ab_zRT Z y ∧ (ab_xM X).locks = false ∧
  (∀ w ∈ ab_zTW Z, w.before (ab_xA X) (ab_xs X) = true) ∧ ab_KH Z U (ab_xs X) ∧ X.2.1.stackTraces = false ∧ ((ab_xR X).frames = ab_zFR Z y ∧ (ab_xR X).locals = ab_zLO Z y ∧ (ab_xR X).cells = (ab_zP Z y).2.1 ∧ (ab_xR X).slots = (ab_zP Z y).2.2.1) ∧ U.2.2.1 < U.2.2.2 ∧ ab_ET Z y X
def ab_Go (Z : ab_ZT) (U : ab_UT) (y : Nat) (X : ab_XT) (ρ : Nat → Int) (n pc : Nat) (S : List ab_V) (L : ab_L) (h : ab_H) (cn sn : Nat) : Prop := ∀ (H : Heap) (ls : Array Slot) (st : List Value) (locs : List Loc),
  ab_rH Z U n ρ h H → ab_rL U n ρ (ab_zML Z y) L ls → ab_rS U n ρ S st → va_S (ab_nA U) (ab_xs X).heap H locs → ab_W X H locs cn sn (F0 (ab_xm X) pc ls st)
/-- a leaf: 0 a return, 1 a throw, else a cut -/
def ab_Lf (Z : ab_ZT) (U : ab_UT) (y : Nat) (X : ab_XT) (ρ : Nat → Int) (kd a : Nat) (S : List ab_V) (L : ab_L) (n : Nat) (h : ab_H) (cn sn : Nat) : Prop := match kd with
  | 0 => ∀ (ins : Instr) (pc : Nat) (H : Heap) (ls : Array Slot) (st : List Value) (locs : List Loc), decode (ab_zCB Z y) pc = .ok (ins, 1) → ab_kr (ab_zRT Z y) st ins → ab_rH Z U n ρ h H → ab_rS U n ρ S st → va_S (ab_nA U) (ab_xs X).heap H locs → ab_W X H locs cn sn (F0 (ab_xm X) pc ls st)
  | 1 => (ab_zP Z y).2.2.2 = [] → ∀ (pc : Nat) (H : Heap) (ls : Array Slot) (st : List Value) (locs : List Loc) (q : Addr) (ce : Cell), ab_rH Z U n ρ h H → H[q]? = some ce → ce.vm = .none → (ab_xs X).vm.findClass (ab_zEN Z a) = some ce.cls → va_S (ab_nA U) (ab_xs X).heap H locs → ab_WX X H locs cn sn (F0 (ab_xm X) pc ls st) q
  | _ => ab_Go Z U y X ρ n a S L h cn sn
def ab_Hk (Z : ab_ZT) (U : ab_UT) (y : Nat) (X : ab_XT) (n : Nat) (ρ : Nat → Int) (k : ab_K) : Prop := ∀ kd a S L (G : ab_G) h cn sn ρ', k kd a S L G h cn sn = true → ab_Ext n ρ G.1 ρ' → ab_Sat ρ' G → ab_Lf Z U y X ρ' kd a S L G.1 h cn sn
theorem ab_Hk.ext {Z : ab_ZT} {U : ab_UT} {y : Nat} {X : ab_XT} {n n' : Nat} {ρ ρ' : Nat → Int} {k : ab_K} (hk : ab_Hk Z U y X n ρ k) (hE : ab_Ext n ρ n' ρ') : ab_Hk Z U y X n' ρ' k := fun kd a S L G h cn sn ρ2 e1 e2 e3 => hk kd a S L G h cn sn ρ2 e1 (hE.tr e2) e3
def ab_Ok (Z : ab_ZT) (U : ab_UT) (F : ab_X) : Prop := ∀ y cuts fst pos L S (G : ab_G) h cn sn k, F y cuts fst pos L S G h cn sn k = true → (∃ i, pos = ab_dr i (ab_zP Z y).1) →
  ∀ (X : ab_XT) (ρ : Nat → Int), ab_Cx Z U y X → ab_Sat ρ G → ab_Hk Z U y X G.1 ρ k → ∀ pc, (∀ e r, pos = e :: r → e.1 = pc) → ab_Go Z U y X ρ G.1 pc S L h cn sn
theorem ab_dr_nil {α : Type} : ∀ i : Nat, ab_dr i ([] : List α) = []
  | 0 => rfl
  | _ + 1 => rfl
theorem ab_dr_succ {α : Type} : ∀ (i : Nat) (l : List α) (a : α) (t : List α), ab_dr i l = a :: t → ab_dr (i + 1) l = t
  | 0, l, a, t, h => by
    have h' : l = a :: t := h
    rw [h']
    rfl
  | i + 1, [], a, t, h => by cases h
  | i + 1, b :: l, a, t, h => by
    show ab_dr (i + 1) l = t
    exact ab_dr_succ i l a t h
theorem ab_dr_one {α : Type} (i : Nat) (l : List α) : ab_dr 1 (ab_dr i l) = ab_dr (i + 1) l := by
  cases h : ab_dr i l with
  | nil =>
    have go : ∀ (i : Nat) (l : List α), ab_dr i l = [] → ab_dr (i + 1) l = [] := by
      intro i
      induction i with
      | zero => intro l h; rw [show l = [] from h]; rfl
      | succ i ih =>
        intro l h
        cases l with
        | nil => rfl
        | cons b l => exact ih l h
    rw [go i l h]
    rfl
  | cons a t => rw [ab_dr_succ i l a t h]; rfl
/-- the entry's words -/
def ab_EK (Z : ab_ZT) (y pc k : Nat) (A : Int) (x1 x2 : Nat) (Xs : List Nat) (rest : List ab_E) (ins : Instr) (len : Nat) : Prop :=
  match k with
  | 0 => ab_R 0 A ∧ (ab_k0c ins len A ∨ ∃ i, ((ins = .ldc i ∧ len = 2) ∨ (ins = .ldc_w i ∧ len = 3)) ∧ Cond.constant (ab_zY Z y).cls i (Int32.ofInt A) ∈ ab_zTW Z)
  | 1 => ab_R 1 A ∧ ((∃ n : Fin 2, ins = .lconst n ∧ len = 1 ∧ Int64.ofNat n.val = Int64.ofInt A) ∨ ∃ i, ins = .ldc2_w i ∧ len = 3 ∧ Cond.constantLong (ab_zY Z y).cls i (Int64.ofInt A) ∈ ab_zTW Z)
  | 2 => ∃ i, ins = .ldc2_w i ∧ len = 3 ∧ Cond.constantDouble (ab_zY Z y).cls i 0x4020000000000000 ∈ ab_zTW Z
  | 3 => ab_k3 ins len x1 x2
  | 4 => ab_k4 ins len x1 x2 ∧ (x2 + 1 < ab_zML Z y ∨ (x2 < ab_zML Z y ∧ x1 ≠ 1))
  | 5 => ins = .iinc x1 A ∧ len = 3 ∧ x1 < ab_zML Z y ∧ ab_R 0 A
  | 6 => ab_k6 ins x1 x2 ∧ len = 1
  | 7 => len = 1 ∧ ((ins = .ineg ∧ x1 = 0) ∨ (ins = .lneg ∧ x1 = 1))
  | 8 => ins = .i2l ∧ len = 1
  | 9 => ins = .l2i ∧ len = 1
  | 10 => ins = .i2d ∧ len = 1
  | 11 => ins = .ddiv ∧ len = 1
  | 12 => ins = .dup ∧ len = 1
  | 13 => ins = .dup2 ∧ len = 1
  | 14 => ins = .pop ∧ len = 1
  | 15 => ins = .pop2 ∧ len = 1
  | 20 => len = 3 ∧ ∃ off tgt, ins = .goto off ∧ (pc : Int) + off = (tgt : Nat) ∧ ab_tg Z y x1 tgt
  | 21 => len = 3 ∧ x1 ≤ 5 ∧ ∃ off tgt, ins = .ifCond (ab_cn x1) off ∧ (pc : Int) + off = (tgt : Nat) ∧ ab_tg Z y x2 tgt
  | 22 => len = 3 ∧ x1 ≤ 5 ∧ ∃ off tgt, ins = .if_icmp (ab_cn x1) off ∧ (pc : Int) + off = (tgt : Nat) ∧ ab_tg Z y x2 tgt
  | 23 => len = 1 ∧ ins = .lcmp ∧ x1 ≤ 5 ∧ ∃ off tgt, decode (ab_zCB Z y) (pc + 1) = .ok (.ifCond (ab_cn x1) off, 3) ∧ ((pc + 1 : Nat) : Int) + off = (tgt : Nat) ∧ ab_tg Z y x2 tgt ∧ ∀ e2 e3 r3, rest = e2 :: e3 :: r3 → e3.1 = pc + 4
  | 24 => ∃ dflt lo hi offs tgt, ins = .tableswitch dflt lo hi offs ∧ lo = A ∧ hi = A + (Xs.length : Int) - 1 ∧ (pc : Int) + dflt = (tgt : Nat) ∧ ab_tg Z y x1 tgt ∧ ∀ (j t : Nat), ab_at Xs j = some t → ∃ off t2, offs[j]? = some off ∧ (pc : Int) + off = (t2 : Nat) ∧ ab_tg Z y t t2
  | 25 => ∃ dflt ps off tgt, ins = .lookupswitch dflt ps ∧ (ps.toList.zip (ps.toList.drop 1)).all (fun (a, next) => a.1 < next.1) = true ∧ Op.lookupswitch.offset ps.toList dflt A = off ∧ (pc : Int) + off = (tgt : Nat) ∧ ab_tg Z y x1 tgt
  | _ => True
section ST
variable {Z : ab_ZT} {U : ab_UT} {F : ab_X} {y : Nat} {X : ab_XT} {ρ : Nat → Int} {cuts : List Nat} {pc : Nat} {A : Int} {x1 x2 : Nat} {Xs : List Nat} {rest : List ab_E} {L : ab_L} {S : List ab_V} {G : ab_G} {h : ab_H} {cn sn : Nat} {k : ab_K} {ins : Instr} {len : Nat}
/-- on with the next row -/
theorem ab_nx (hih : ab_Ok Z U F) (hc : ab_Cx Z U y X) {G' : ab_G} {ρ' : Nat → Int} {L' : ab_L} {S' : List ab_V} {h' : ab_H} {cn' sn' : Nat} (hF : F y cuts false rest L' S' G' h' cn' sn' k = true) (hr : ∃ i, rest = ab_dr i (ab_zP Z y).1) {pc' : Nat} (hn : ∀ e r, rest = e :: r → e.1 = pc') (hs : ab_Sat ρ' G') (hk : ab_Hk Z U y X G.1 ρ k) (hE : ab_Ext G.1 ρ G'.1 ρ') :
    ab_Go Z U y X ρ' G'.1 pc' S' L' h' cn' sn' := hih y cuts false rest L' S' G' h' cn' sn' k hF hr X ρ' hc hs (hk.ext hE) pc' hn
theorem ab_st3 (hih : ab_Ok Z U F) (hc : ab_Cx Z U y X) (hs : ab_Sat ρ G) (hk : ab_Hk Z U y X G.1 ρ k) (hd : decode (ab_zCB Z y) pc = .ok (ins, len)) (hr : ∃ i, rest = ab_dr i (ab_zP Z y).1) (hn : ∀ e r, rest = e :: r → e.1 = pc + len) (hE : ab_k3 ins len x1 x2)
    (hx : ab_i3 x1 x2 L (fun v => F y cuts false rest L (v :: S) G h cn sn k) = true) : ab_Go Z U y X ρ G.1 pc S L h cn sn := by
  unfold ab_i3 at hx
  split at hx
  · rename_i v hl
    obtain ⟨h1, h2⟩ := ab_an hx
    intro H ls st locs a1 a2 a3 a4
    obtain ⟨x, b1, b2⟩ := a2.get hl
    exact ab_w3 hc.1 hc.2.1 hd hE h1 b1 b2 (ab_nx hih hc h2 hr hn hs hk (ab_Ext.rf _ _) H ls (x :: st) locs a1 a2 ⟨b2, a3⟩ a4)
  · cases hx
theorem ab_st0 (hih : ab_Ok Z U F) (hc : ab_Cx Z U y X) (hs : ab_Sat ρ G) (hk : ab_Hk Z U y X G.1 ρ k) (hd : decode (ab_zCB Z y) pc = .ok (ins, len)) (hr : ∃ i, rest = ab_dr i (ab_zP Z y).1) (hn : ∀ e r, rest = e :: r → e.1 = pc + len) (hE : ab_EK Z y pc 0 A x1 x2 Xs rest ins len)
    (hx : F y cuts false rest L (.inl (.inl (.inl A)) :: S) G h cn sn k = true) : ab_Go Z U y X ρ G.1 pc S L h cn sn := by
  obtain ⟨hA, hE⟩ := hE
  intro H ls st locs a1 a2 a3 a4
  have go := ab_nx hih hc hx hr hn hs hk (ab_Ext.rf _ _) H ls (.int (Int32.ofInt A) :: st) locs a1 a2 ⟨⟨rfl, hA, trivial⟩, a3⟩ a4
  rcases hE with hE | ⟨i, ⟨rfl, rfl⟩ | ⟨rfl, rfl⟩, hw⟩
  · exact ab_w0 hc.1 hc.2.1 hd hE go
  · exact lv_ldc hc.1 hc.2.1 hc.2.2.2.1 (hc.2.2.2.2.2.2.2.1 _ hw) hd go
  · exact lv_ldcw hc.1 hc.2.1 hc.2.2.2.1 (hc.2.2.2.2.2.2.2.1 _ hw) hd go
theorem ab_st1 (hih : ab_Ok Z U F) (hc : ab_Cx Z U y X) (hs : ab_Sat ρ G) (hk : ab_Hk Z U y X G.1 ρ k) (hd : decode (ab_zCB Z y) pc = .ok (ins, len)) (hr : ∃ i, rest = ab_dr i (ab_zP Z y).1) (hn : ∀ e r, rest = e :: r → e.1 = pc + len) (hE : ab_EK Z y pc 1 A x1 x2 Xs rest ins len)
    (hx : F y cuts false rest L (.inl (.inr (.inl A)) :: S) G h cn sn k = true) : ab_Go Z U y X ρ G.1 pc S L h cn sn := by
  obtain ⟨hA, hE⟩ := hE
  intro H ls st locs a1 a2 a3 a4
  have go := ab_nx hih hc hx hr hn hs hk (ab_Ext.rf _ _) H ls (.long (Int64.ofInt A) :: st) locs a1 a2 ⟨⟨rfl, hA, trivial⟩, a3⟩ a4
  rcases hE with ⟨n, rfl, rfl, e⟩ | ⟨i, rfl, rfl, hw⟩
  · exact lv_lconst hc.1 hc.2.1 hd e go
  · exact lv_ldc2 hc.1 hc.2.1 hc.2.2.2.1 (hc.2.2.2.2.2.2.2.1 _ hw) hd go
theorem ab_st2 (hih : ab_Ok Z U F) (hc : ab_Cx Z U y X) (hs : ab_Sat ρ G) (hk : ab_Hk Z U y X G.1 ρ k) (hd : decode (ab_zCB Z y) pc = .ok (ins, len)) (hr : ∃ i, rest = ab_dr i (ab_zP Z y).1) (hn : ∀ e r, rest = e :: r → e.1 = pc + len) (hE : ab_EK Z y pc 2 A x1 x2 Xs rest ins len)
    (hx : F y cuts false rest L (.inr (.inr 3) :: S) G h cn sn k = true) : ab_Go Z U y X ρ G.1 pc S L h cn sn := by
  obtain ⟨i, rfl, rfl, hw⟩ := hE
  intro H ls st locs a1 a2 a3 a4
  have go := ab_nx hih hc hx hr hn hs hk (ab_Ext.rf _ _) H ls (.double 0x4020000000000000 :: st) locs a1 a2 ⟨Or.inr (Or.inr (Or.inr (Or.inl ⟨rfl, rfl⟩))), a3⟩ a4
  exact lv_ldc2d hc.1 hc.2.1 hc.2.2.2.1 (hc.2.2.2.2.2.2.2.1 _ hw) hd go
theorem ab_st4 (hih : ab_Ok Z U F) (hc : ab_Cx Z U y X) (hs : ab_Sat ρ G) (hk : ab_Hk Z U y X G.1 ρ k) (hd : decode (ab_zCB Z y) pc = .ok (ins, len)) (hr : ∃ i, rest = ab_dr i (ab_zP Z y).1) (hn : ∀ e r, rest = e :: r → e.1 = pc + len) (hE : ab_EK Z y pc 4 A x1 x2 Xs rest ins len)
    (hx : (match S with
      | v :: S' => bif ab_tag x1 v then F y cuts false rest (ab_sto x2 v L) S' G h cn sn k else false
      | [] => false) = true) : ab_Go Z U y X ρ G.1 pc S L h cn sn := by
  obtain ⟨hE, hl⟩ := hE
  cases S with
  | nil => cases hx
  | cons v S' =>
    obtain ⟨h1, h2⟩ := ab_an hx
    intro H ls st locs a1 a2 a3 a4
    obtain ⟨x, st', rfl, b1, b2⟩ := a3.cons
    exact ab_w4 hc.1 hc.2.1 hd hE hl h1 b1 a2 (fun ls' hL => ab_nx hih hc h2 hr hn hs hk (ab_Ext.rf _ _) H ls' st' locs a1 hL b2 a4)
theorem ab_wi {n : Nat} {ρ : Nat → Int} {s : ab_S} {z : Int} (hR : ab_R 0 z) (ho : ab_oS n s) (he : ab_sv ρ s = z) : ab_rV U n ρ (.inl (.inl s)) (.int (Int32.ofInt z)) := ⟨by rw [he], by rw [he]; exact hR, ho⟩
theorem ab_wl {n : Nat} {ρ : Nat → Int} {s : ab_S} {z : Int} (hR : ab_R 1 z) (ho : ab_oS n s) (he : ab_sv ρ s = z) : ab_rV U n ρ (.inl (.inr s)) (.long (Int64.ofInt z)) := ⟨by rw [he], by rw [he]; exact hR, ho⟩
theorem ab_st5 (hih : ab_Ok Z U F) (hc : ab_Cx Z U y X) (hs : ab_Sat ρ G) (hk : ab_Hk Z U y X G.1 ρ k) (hd : decode (ab_zCB Z y) pc = .ok (ins, len)) (hr : ∃ i, rest = ab_dr i (ab_zP Z y).1) (hn : ∀ e r, rest = e :: r → e.1 = pc + len) (hE : ab_EK Z y pc 5 A x1 x2 Xs rest ins len)
    (hx : ab_i5 x1 A L G (fun v G' => F y cuts false rest (ab_sto x1 v L) S G' h cn sn k) = true) : ab_Go Z U y X ρ G.1 pc S L h cn sn := by
  obtain ⟨rfl, rfl, hl, hA⟩ := hE
  unfold ab_i5 at hx
  split at hx
  · rename_i s0 hlk
    intro H ls st locs a1 a2 a3 a4
    obtain ⟨x, b1, rfl, b3, b4⟩ := a2.get hlk
    obtain ⟨-, s1, G', ρ', f1, f2, f3, f4, f5⟩ := ab_ar_ok (k := 0) (op := 0) (b := .inl A) hs b4 trivial b3 hA hx
    have e : Int32.ofInt (ab_sv ρ s0) + Int32.ofInt A = Int32.ofInt (ab_opZ 0 0 (ab_sv ρ s0) A) := by
      show _ = Int32.ofInt (Int32.ofInt (ab_sv ρ s0) + Int32.ofInt A).toInt
      rw [Int32.ofInt_toInt]
    refine ab_w5 hc.1 hc.2.1 hd hl b1 a2 f2 (v := .inl (.inl s1)) (by rw [e]; exact ab_wi (ab_opR 0 0 _ _) f4 f5) (fun ls' hL => ?_)
    exact ab_nx hih hc f1 hr hn f3 hk f2 H ls' st locs (a1.ext f2) hL (a3.ext f2) a4
  · cases hx
theorem ab_st6 (hih : ab_Ok Z U F) (hc : ab_Cx Z U y X) (hs : ab_Sat ρ G) (hk : ab_Hk Z U y X G.1 ρ k) (hd : decode (ab_zCB Z y) pc = .ok (ins, len)) (hr : ∃ i, rest = ab_dr i (ab_zP Z y).1) (hn : ∀ e r, rest = e :: r → e.1 = pc + len) (hE : ab_EK Z y pc 6 A x1 x2 Xs rest ins len)
    (hx : ab_i6 x1 x2 S G (fun S' G' => F y cuts false rest L S' G' h cn sn k) = true) : ab_Go Z U y X ρ G.1 pc S L h cn sn := by
  obtain ⟨hE, rfl⟩ := hE
  unfold ab_i6 at hx
  split at hx
  · rename_i b0 a0 S'
    obtain ⟨h1, h2⟩ := ab_an hx
    have e1 : x1 = 0 := ab_beq h1
    subst e1
    intro H ls st locs a1 a2 a3 a4
    obtain ⟨x, st1, rfl, ⟨rfl, b3, b4⟩, b5⟩ := a3.cons
    obtain ⟨x', st2, rfl, ⟨rfl, c3, c4⟩, c5⟩ := b5.cons
    obtain ⟨h0, s1, G', ρ', f1, f2, f3, f4, f5⟩ := ab_ar_ok (k := 0) hs c4 b4 c3 b3 h2
    exact ab_w6 hc.1 hc.2.1 hd hE b3 h0 (ab_nx hih hc f1 hr hn f3 hk f2 H ls _ locs (a1.ext f2) (a2.ext f2) ⟨ab_wi (ab_opR 0 _ _ _) f4 f5, c5.ext f2⟩ a4)
  · rename_i b0 a0 S'
    obtain ⟨h1, h2⟩ := ab_an hx
    obtain ⟨h1, h3⟩ := ab_an h1
    have e1 : x1 = 1 := ab_beq h1
    subst e1
    intro H ls st locs a1 a2 a3 a4
    obtain ⟨x, st1, rfl, ⟨rfl, b3, b4⟩, b5⟩ := a3.cons
    obtain ⟨x', st2, rfl, ⟨rfl, c3, c4⟩, c5⟩ := b5.cons
    obtain ⟨h0, s1, G', ρ', f1, f2, f3, f4, f5⟩ := ab_ar_ok (k := 1) hs c4 b4 c3 b3 h2
    exact ab_w6L hc.1 hc.2.1 hd hE b3 h0 (ab_nx hih hc f1 hr hn f3 hk f2 H ls _ locs (a1.ext f2) (a2.ext f2) ⟨ab_wl (ab_opR 1 _ _ _) f4 f5, c5.ext f2⟩ a4)
  · cases hx
theorem ab_st7 (hih : ab_Ok Z U F) (hc : ab_Cx Z U y X) (hs : ab_Sat ρ G) (hk : ab_Hk Z U y X G.1 ρ k) (hd : decode (ab_zCB Z y) pc = .ok (ins, len)) (hr : ∃ i, rest = ab_dr i (ab_zP Z y).1) (hn : ∀ e r, rest = e :: r → e.1 = pc + len) (hE : ab_EK Z y pc 7 A x1 x2 Xs rest ins len)
    (hx : ab_i7 S G (fun S' G' => F y cuts false rest L S' G' h cn sn k) x1 = true) : ab_Go Z U y X ρ G.1 pc S L h cn sn := by
  obtain ⟨rfl, hE⟩ := hE
  unfold ab_i7 at hx
  split at hx
  · rename_i a0 S'
    obtain ⟨h1, h2⟩ := ab_an hx
    have e1 : x1 = 0 := ab_beq h1
    subst e1
    rcases hE with ⟨rfl, -⟩ | ⟨-, q⟩
    · intro H ls st locs a1 a2 a3 a4
      obtain ⟨x, st1, rfl, ⟨rfl, b3, b4⟩, b5⟩ := a3.cons
      obtain ⟨-, s1, G', ρ', f1, f2, f3, f4, f5⟩ := ab_ar_ok (k := 0) (op := 1) (a := .inl 0) hs trivial b4 ab_z0 b3 h2
      refine lv_ineg hc.1 hc.2.1 hd ?_
      rw [← ab_neg32]
      exact ab_nx hih hc f1 hr hn f3 hk f2 H ls _ locs (a1.ext f2) (a2.ext f2) ⟨ab_wi (ab_opR 0 _ _ _) f4 f5, b5.ext f2⟩ a4
    · cases q
  · rename_i a0 S'
    obtain ⟨h1, h2⟩ := ab_an hx
    have e1 : x1 = 1 := ab_beq h1
    subst e1
    rcases hE with ⟨-, q⟩ | ⟨rfl, -⟩
    · cases q
    · intro H ls st locs a1 a2 a3 a4
      obtain ⟨x, st1, rfl, ⟨rfl, b3, b4⟩, b5⟩ := a3.cons
      obtain ⟨-, s1, G', ρ', f1, f2, f3, f4, f5⟩ := ab_ar_ok (k := 1) (op := 1) (a := .inl 0) hs trivial b4 ab_z1 b3 h2
      refine lv_lneg hc.1 hc.2.1 hd ?_
      rw [← ab_neg64]
      exact ab_nx hih hc f1 hr hn f3 hk f2 H ls _ locs (a1.ext f2) (a2.ext f2) ⟨ab_wl (ab_opR 1 _ _ _) f4 f5, b5.ext f2⟩ a4
  · cases hx
end ST
end
section
/-! STEPS: conversions, the stack's own rows, branches. -/
theorem ab_i2l_eq {z : Int} (h : ab_R 0 z) : (Int32.ofInt z).toInt64 = Int64.ofInt z ∧ ab_R 1 z := by
  have h1 := h.1
  have h2 := h.2
  rw [ab_lo0] at h1
  rw [ab_hi0] at h2
  have hR : ab_R 1 z := by
    constructor
    · rw [ab_loS rfl]; omega
    · rw [ab_hiS rfl]; omega
  refine ⟨?_, hR⟩
  apply Int64.toInt_inj.mp
  rw [Int32.toInt_toInt64, ab_t32 h, ab_t64 (by omega) (by omega)]
theorem ab_l2i_eq {z : Int} (h : ab_R 1 z) : (Int64.ofInt z).toInt32 = Int32.ofInt (ab_w 0 z) ∧ ab_R 0 (ab_w 0 z) := by
  have h1 := h.1
  have h2 := h.2
  rw [ab_loS rfl] at h1
  rw [ab_hiS rfl] at h2
  have e0 : ab_wr 0 z = z.bmod (2 ^ 32) := rfl
  have hb1 : -2147483648 ≤ z.bmod (2 ^ 32) := by
    have := Int.le_bmod (x := z) (m := 2 ^ 32) (by decide)
    omega
  have hb2 : z.bmod (2 ^ 32) < 2147483648 := by
    have := Int.bmod_lt (x := z) (m := 2 ^ 32) (by decide)
    omega
  have hR : ab_R 0 (ab_w 0 z) := by
    rw [ab_w_eq, e0]
    constructor
    · rw [ab_lo0]; exact hb1
    · rw [ab_hi0]; omega
  refine ⟨?_, hR⟩
  apply Int32.toInt_inj.mp
  rw [ab_t32 hR, ab_w_eq, e0, Int64.toInt_toInt32, ab_t64 h1 h2]
/-- an eighth of a number is a number (the library has it; it is used in the last part alone) -/
def ab_DDH : Prop := ∀ z : Int32, vf_n64 (FP.ddiv (FP.i2d z) 0x4020000000000000)
section ST2
variable {Z : ab_ZT} {U : ab_UT} {F : ab_X} {y : Nat} {X : ab_XT} {ρ : Nat → Int} {cuts : List Nat} {pc : Nat} {A : Int} {x1 x2 : Nat} {Xs : List Nat} {rest : List ab_E} {L : ab_L} {S : List ab_V} {G : ab_G} {h : ab_H} {cn sn : Nat} {k : ab_K} {ins : Instr} {len : Nat}
theorem ab_st8 (hih : ab_Ok Z U F) (hc : ab_Cx Z U y X) (hs : ab_Sat ρ G) (hk : ab_Hk Z U y X G.1 ρ k) (hd : decode (ab_zCB Z y) pc = .ok (ins, len)) (hr : ∃ i, rest = ab_dr i (ab_zP Z y).1) (hn : ∀ e r, rest = e :: r → e.1 = pc + len) (hE : ab_EK Z y pc 8 A x1 x2 Xs rest ins len)
    (hx : ab_i8 S (fun S' => F y cuts false rest L S' G h cn sn k) = true) : ab_Go Z U y X ρ G.1 pc S L h cn sn := by
  obtain ⟨rfl, rfl⟩ := hE
  unfold ab_i8 at hx
  split at hx
  · intro H ls st locs a1 a2 a3 a4
    obtain ⟨x, st1, rfl, ⟨rfl, b3, b4⟩, b5⟩ := a3.cons
    obtain ⟨e1, e2⟩ := ab_i2l_eq b3
    exact lv_i2l hc.1 hc.2.1 hd e1 (ab_nx hih hc hx hr hn hs hk (ab_Ext.rf _ _) H ls _ locs a1 a2 ⟨⟨rfl, e2, b4⟩, b5⟩ a4)
  · cases hx
theorem ab_st9 (hih : ab_Ok Z U F) (hc : ab_Cx Z U y X) (hs : ab_Sat ρ G) (hk : ab_Hk Z U y X G.1 ρ k) (hd : decode (ab_zCB Z y) pc = .ok (ins, len)) (hr : ∃ i, rest = ab_dr i (ab_zP Z y).1) (hn : ∀ e r, rest = e :: r → e.1 = pc + len) (hE : ab_EK Z y pc 9 A x1 x2 Xs rest ins len)
    (hx : ab_i9 S G (fun S' G' => F y cuts false rest L S' G' h cn sn k) = true) : ab_Go Z U y X ρ G.1 pc S L h cn sn := by
  obtain ⟨rfl, rfl⟩ := hE
  unfold ab_i9 at hx
  split at hx
  · rename_i a0 S'
    intro H ls st locs a1 a2 a3 a4
    obtain ⟨x, st1, rfl, ⟨rfl, b3, b4⟩, b5⟩ := a3.cons
    obtain ⟨e1, e2⟩ := ab_l2i_eq b3
    obtain ⟨n1, n2⟩ := ab_nm_ok hs b4
    split at hx
    · rename_i z hz
      rw [hz] at n2
      have n3 : z = ab_sv ρ a0 := n2
      refine lv_l2i hc.1 hc.2.1 hd e1 (ab_nx hih hc hx hr hn hs hk (ab_Ext.rf _ _) H ls _ locs a1 a2 ⟨?_, b5⟩ a4)
      rw [← n3] at e2 ⊢
      exact ⟨rfl, e2, trivial⟩
    · rename_i i hi
      rw [hi] at n1 n2
      have n3 : ρ i = ab_sv ρ a0 := n2
      rcases ab_if hx with ⟨q1, q2⟩ | ⟨q1, q2⟩
      · have q3 := ab_inR_iff 0 _ _ q1
        have q4 := ab_iv_ok hs (s := .inr i) n1
        have q5 : ab_R 0 (ρ i) := ⟨Int.le_trans q3.1 q4.1, Int.le_trans q4.2 q3.2⟩
        have q6 : ab_w 0 (ab_sv ρ a0) = ρ i := by rw [ab_w_eq, ← n3, ab_wr_id q5]
        rw [q6] at e1
        exact lv_l2i hc.1 hc.2.1 hd e1 (ab_nx hih hc q2 hr hn hs hk (ab_Ext.rf _ _) H ls _ locs a1 a2 ⟨⟨rfl, q5, n1⟩, b5⟩ a4)
      · obtain ⟨s1, G', ρ', f1, f2, f3, f4, f5⟩ := ab_full_ok hs e2 q2
        exact lv_l2i hc.1 hc.2.1 hd e1 (ab_nx hih hc f1 hr hn f3 hk f2 H ls _ locs (a1.ext f2) (a2.ext f2) ⟨ab_wi e2 f4 f5, b5.ext f2⟩ a4)
  · cases hx
theorem ab_st10 (hih : ab_Ok Z U F) (hc : ab_Cx Z U y X) (hs : ab_Sat ρ G) (hk : ab_Hk Z U y X G.1 ρ k) (hd : decode (ab_zCB Z y) pc = .ok (ins, len)) (hr : ∃ i, rest = ab_dr i (ab_zP Z y).1) (hn : ∀ e r, rest = e :: r → e.1 = pc + len) (hE : ab_EK Z y pc 10 A x1 x2 Xs rest ins len)
    (hx : ab_i10 S (fun S' => F y cuts false rest L S' G h cn sn k) = true) : ab_Go Z U y X ρ G.1 pc S L h cn sn := by
  obtain ⟨rfl, rfl⟩ := hE
  unfold ab_i10 at hx
  split at hx
  · intro H ls st locs a1 a2 a3 a4
    obtain ⟨x, st1, rfl, ⟨rfl, b3, b4⟩, b5⟩ := a3.cons
    exact lv_i2d hc.1 hc.2.1 hd (ab_nx hih hc hx hr hn hs hk (ab_Ext.rf _ _) H ls _ locs a1 a2 ⟨Or.inr (Or.inl ⟨rfl, _, rfl⟩), b5⟩ a4)
  · cases hx
theorem ab_st11 (hDD : ab_DDH) (hih : ab_Ok Z U F) (hc : ab_Cx Z U y X) (hs : ab_Sat ρ G) (hk : ab_Hk Z U y X G.1 ρ k) (hd : decode (ab_zCB Z y) pc = .ok (ins, len)) (hr : ∃ i, rest = ab_dr i (ab_zP Z y).1) (hn : ∀ e r, rest = e :: r → e.1 = pc + len) (hE : ab_EK Z y pc 11 A x1 x2 Xs rest ins len)
    (hx : ab_i11 S (fun S' => F y cuts false rest L S' G h cn sn k) = true) : ab_Go Z U y X ρ G.1 pc S L h cn sn := by
  obtain ⟨rfl, rfl⟩ := hE
  unfold ab_i11 at hx
  split at hx
  · rename_i t u S'
    obtain ⟨h1, h2⟩ := ab_an hx
    obtain ⟨h3, h4⟩ := ab_an h1
    have et : t = 3 := ab_beq h3
    have eu : u = 1 := ab_beq h4
    subst et
    subst eu
    intro H ls st locs a1 a2 a3 a4
    obtain ⟨x, st1, rfl, b1, b5⟩ := a3.cons
    obtain ⟨x', st2, rfl, c1, c5⟩ := b5.cons
    have ex : x = .double 0x4020000000000000 := by
      rcases b1 with ⟨q, _⟩ | ⟨q, _⟩ | ⟨q, _⟩ | ⟨_, q⟩ | ⟨q, _⟩
      · cases q
      · cases q
      · cases q
      · exact q
      · cases q
    have ey : ∃ z : Int32, x' = .double (FP.i2d z) := by
      rcases c1 with ⟨q, _⟩ | ⟨_, q⟩ | ⟨q, _⟩ | ⟨q, _⟩ | ⟨q, _⟩
      · cases q
      · exact q
      · cases q
      · cases q
      · cases q
    obtain ⟨z, rfl⟩ := ey
    subst ex
    exact lv_ddiv hc.1 hc.2.1 hd (hDD z) (ab_nx hih hc h2 hr hn hs hk (ab_Ext.rf _ _) H ls _ locs a1 a2 ⟨Or.inr (Or.inr (Or.inr (Or.inr ⟨rfl, _, rfl⟩))), c5⟩ a4)
  · cases hx
theorem ab_cat1 {n : Nat} {v : ab_V} {x : Value} (hx : ab_rV U n ρ v x) (hw : ab_wide v = false) : x.category = 1 := by rw [hx.cat, hw]; rfl
theorem ab_cat2 {n : Nat} {v : ab_V} {x : Value} (hx : ab_rV U n ρ v x) (hw : ab_wide v = true) : x.category = 2 := by rw [hx.cat, hw]; rfl
theorem ab_st12 (hih : ab_Ok Z U F) (hc : ab_Cx Z U y X) (hs : ab_Sat ρ G) (hk : ab_Hk Z U y X G.1 ρ k) (hd : decode (ab_zCB Z y) pc = .ok (ins, len)) (hr : ∃ i, rest = ab_dr i (ab_zP Z y).1) (hn : ∀ e r, rest = e :: r → e.1 = pc + len) (hE : ab_EK Z y pc 12 A x1 x2 Xs rest ins len)
    (hx : ab_i12 S (fun S' => F y cuts false rest L S' G h cn sn k) = true) : ab_Go Z U y X ρ G.1 pc S L h cn sn := by
  obtain ⟨rfl, rfl⟩ := hE
  unfold ab_i12 at hx
  split at hx
  · rcases ab_if hx with ⟨_, q⟩ | ⟨q1, q2⟩
    · cases q
    · intro H ls st locs a1 a2 a3 a4
      obtain ⟨x, st1, rfl, b1, b5⟩ := a3.cons
      exact lv_dup hc.1 hc.2.1 hd (ab_cat1 b1 q1) (ab_nx hih hc q2 hr hn hs hk (ab_Ext.rf _ _) H ls _ locs a1 a2 ⟨b1, b1, b5⟩ a4)
  · cases hx
theorem ab_st13 (hih : ab_Ok Z U F) (hc : ab_Cx Z U y X) (hs : ab_Sat ρ G) (hk : ab_Hk Z U y X G.1 ρ k) (hd : decode (ab_zCB Z y) pc = .ok (ins, len)) (hr : ∃ i, rest = ab_dr i (ab_zP Z y).1) (hn : ∀ e r, rest = e :: r → e.1 = pc + len) (hE : ab_EK Z y pc 13 A x1 x2 Xs rest ins len)
    (hx : ab_i13 S (fun S' => F y cuts false rest L S' G h cn sn k) = true) : ab_Go Z U y X ρ G.1 pc S L h cn sn := by
  obtain ⟨rfl, rfl⟩ := hE
  unfold ab_i13 at hx
  split at hx
  · rcases ab_if hx with ⟨q1, q2⟩ | ⟨q1, q2⟩
    · intro H ls st locs a1 a2 a3 a4
      obtain ⟨x, st1, rfl, b1, b5⟩ := a3.cons
      exact lv_dup2_2 hc.1 hc.2.1 hd (ab_cat2 b1 q1) (ab_nx hih hc q2 hr hn hs hk (ab_Ext.rf _ _) H ls _ locs a1 a2 ⟨b1, b1, b5⟩ a4)
    · split at q2
      · rcases ab_if q2 with ⟨_, q⟩ | ⟨q3, q4⟩
        · cases q
        · intro H ls st locs a1 a2 a3 a4
          obtain ⟨x, st1, rfl, b1, b5⟩ := a3.cons
          obtain ⟨x', st2, rfl, c1, c5⟩ := b5.cons
          exact lv_dup2_11 hc.1 hc.2.1 hd (ab_cat1 b1 q1) (ab_cat1 c1 q3) (ab_nx hih hc q4 hr hn hs hk (ab_Ext.rf _ _) H ls _ locs a1 a2 ⟨b1, c1, b1, c1, c5⟩ a4)
      · cases q2
  · cases hx
theorem ab_st14 (hih : ab_Ok Z U F) (hc : ab_Cx Z U y X) (hs : ab_Sat ρ G) (hk : ab_Hk Z U y X G.1 ρ k) (hd : decode (ab_zCB Z y) pc = .ok (ins, len)) (hr : ∃ i, rest = ab_dr i (ab_zP Z y).1) (hn : ∀ e r, rest = e :: r → e.1 = pc + len) (hE : ab_EK Z y pc 14 A x1 x2 Xs rest ins len)
    (hx : ab_i14 S (fun S' => F y cuts false rest L S' G h cn sn k) = true) : ab_Go Z U y X ρ G.1 pc S L h cn sn := by
  obtain ⟨rfl, rfl⟩ := hE
  unfold ab_i14 at hx
  split at hx
  · rcases ab_if hx with ⟨_, q⟩ | ⟨q1, q2⟩
    · cases q
    · intro H ls st locs a1 a2 a3 a4
      obtain ⟨x, st1, rfl, b1, b5⟩ := a3.cons
      exact lv_pop hc.1 hc.2.1 hd (ab_cat1 b1 q1) (ab_nx hih hc q2 hr hn hs hk (ab_Ext.rf _ _) H ls _ locs a1 a2 b5 a4)
  · cases hx
theorem ab_st15 (hih : ab_Ok Z U F) (hc : ab_Cx Z U y X) (hs : ab_Sat ρ G) (hk : ab_Hk Z U y X G.1 ρ k) (hd : decode (ab_zCB Z y) pc = .ok (ins, len)) (hr : ∃ i, rest = ab_dr i (ab_zP Z y).1) (hn : ∀ e r, rest = e :: r → e.1 = pc + len) (hE : ab_EK Z y pc 15 A x1 x2 Xs rest ins len)
    (hx : ab_i15 S (fun S' => F y cuts false rest L S' G h cn sn k) = true) : ab_Go Z U y X ρ G.1 pc S L h cn sn := by
  obtain ⟨rfl, rfl⟩ := hE
  unfold ab_i15 at hx
  split at hx
  · obtain ⟨q1, q2⟩ := ab_an hx
    intro H ls st locs a1 a2 a3 a4
    obtain ⟨x, st1, rfl, b1, b5⟩ := a3.cons
    exact lv_pop2_2 hc.1 hc.2.1 hd (ab_cat2 b1 q1) (ab_nx hih hc q2 hr hn hs hk (ab_Ext.rf _ _) H ls _ locs a1 a2 b5 a4)
  · cases hx
/-- on at a place told by its number -/
theorem ab_jp (hih : ab_Ok Z U F) (hc : ab_Cx Z U y X) {G' : ab_G} {ρ' : Nat → Int} {L' : ab_L} {S' : List ab_V} {h' : ab_H} {cn' sn' x tgt : Nat} (hF : F y cuts false (ab_dr x (ab_zP Z y).1) L' S' G' h' cn' sn' k = true) (ht : ab_tg Z y x tgt) (hs : ab_Sat ρ' G') (hk : ab_Hk Z U y X G.1 ρ k) (hE : ab_Ext G.1 ρ G'.1 ρ') :
    ab_Go Z U y X ρ' G'.1 tgt S' L' h' cn' sn' := ab_nx hih hc hF ⟨x, rfl⟩ ht hs hk hE
theorem ab_st20 (hih : ab_Ok Z U F) (hc : ab_Cx Z U y X) (hs : ab_Sat ρ G) (hk : ab_Hk Z U y X G.1 ρ k) (hd : decode (ab_zCB Z y) pc = .ok (ins, len)) (hE : ab_EK Z y pc 20 A x1 x2 Xs rest ins len)
    (hx : F y cuts false (ab_dr x1 (ab_zP Z y).1) L S G h cn sn k = true) : ab_Go Z U y X ρ G.1 pc S L h cn sn := by
  obtain ⟨rfl, off, tgt, rfl, ht, hg⟩ := hE
  intro H ls st locs a1 a2 a3 a4
  exact lv_goto hc.1 hc.2.1 hd ht (ab_jp hih hc hx hg hs hk (ab_Ext.rf _ _) H ls st locs a1 a2 a3 a4)
theorem ab_cnd (hih : ab_Ok Z U F) (hc : ab_Cx Z U y X) {G' : ab_G} {S' : List ab_V} {x tgt pc' : Nat} {b : Bool} (hr : ∃ i, rest = ab_dr i (ab_zP Z y).1) (hn : ∀ e r, rest = e :: r → e.1 = pc') (ht : ab_tg Z y x tgt) (hF : F y cuts false (bif b then ab_dr x (ab_zP Z y).1 else rest) L S' G' h cn sn k = true) (hs : ab_Sat ρ G') (hk : ab_Hk Z U y X G.1 ρ k) (hg : G'.1 = G.1) :
    ab_Go Z U y X ρ G'.1 (bif b then tgt else pc') S' L h cn sn := by
  have hE : ab_Ext G.1 ρ G'.1 ρ := by rw [hg]; exact ab_Ext.rf _ _
  cases b
  · exact ab_nx hih hc hF hr hn hs hk hE
  · exact ab_jp hih hc hF ht hs hk hE
theorem ab_st21 (hih : ab_Ok Z U F) (hc : ab_Cx Z U y X) (hs : ab_Sat ρ G) (hk : ab_Hk Z U y X G.1 ρ k) (hd : decode (ab_zCB Z y) pc = .ok (ins, len)) (hr : ∃ i, rest = ab_dr i (ab_zP Z y).1) (hn : ∀ e r, rest = e :: r → e.1 = pc + len) (hE : ab_EK Z y pc 21 A x1 x2 Xs rest ins len)
    (hx : ab_i21 x1 S G (fun S' t G' => F y cuts false (bif t then ab_dr x2 (ab_zP Z y).1 else rest) L S' G' h cn sn k) = true) : ab_Go Z U y X ρ G.1 pc S L h cn sn := by
  obtain ⟨rfl, h5, off, tgt, rfl, ht, hg⟩ := hE
  unfold ab_i21 at hx
  split at hx
  · intro H ls st locs a1 a2 a3 a4
    obtain ⟨x, st1, rfl, ⟨rfl, b3, b4⟩, b5⟩ := a3.cons
    obtain ⟨G', g1, g2, g3⟩ := ab_br_ok (b := .inl 0) hs h5 b4 trivial hx
    have go := ab_cnd hih hc hr hn hg g1 g2 hk g3
    rw [g3] at go
    exact ab_w21 hc.1 hc.2.1 h5 hd ht b3 (go H ls _ locs a1 a2 b5 a4)
  · cases hx
theorem ab_st22 (hih : ab_Ok Z U F) (hc : ab_Cx Z U y X) (hs : ab_Sat ρ G) (hk : ab_Hk Z U y X G.1 ρ k) (hd : decode (ab_zCB Z y) pc = .ok (ins, len)) (hr : ∃ i, rest = ab_dr i (ab_zP Z y).1) (hn : ∀ e r, rest = e :: r → e.1 = pc + len) (hE : ab_EK Z y pc 22 A x1 x2 Xs rest ins len)
    (hx : ab_i22 x1 S G (fun S' t G' => F y cuts false (bif t then ab_dr x2 (ab_zP Z y).1 else rest) L S' G' h cn sn k) = true) : ab_Go Z U y X ρ G.1 pc S L h cn sn := by
  obtain ⟨rfl, h5, off, tgt, rfl, ht, hg⟩ := hE
  unfold ab_i22 at hx
  split at hx
  · intro H ls st locs a1 a2 a3 a4
    obtain ⟨x, st1, rfl, ⟨rfl, b3, b4⟩, b5⟩ := a3.cons
    obtain ⟨x', st2, rfl, ⟨rfl, c3, c4⟩, c5⟩ := b5.cons
    obtain ⟨G', g1, g2, g3⟩ := ab_br_ok hs h5 c4 b4 hx
    have go := ab_cnd hih hc hr hn hg g1 g2 hk g3
    rw [g3] at go
    exact ab_w22 hc.1 hc.2.1 h5 hd ht c3 b3 (go H ls _ locs a1 a2 c5 a4)
  · cases hx
theorem ab_st23 (hih : ab_Ok Z U F) (hc : ab_Cx Z U y X) (hs : ab_Sat ρ G) (hk : ab_Hk Z U y X G.1 ρ k) (hd : decode (ab_zCB Z y) pc = .ok (ins, len)) (hr : ∃ i, rest = ab_dr i (ab_zP Z y).1) (hE : ab_EK Z y pc 23 A x1 x2 Xs rest ins len)
    (hx : ab_i23 x1 S G (fun S' t G' => F y cuts false (bif t then ab_dr x2 (ab_zP Z y).1 else ab_dr 1 rest) L S' G' h cn sn k) = true) : ab_Go Z U y X ρ G.1 pc S L h cn sn := by
  obtain ⟨rfl, rfl, h5, off, tgt, hd2, ht, hg, hn⟩ := hE
  obtain ⟨i, hi⟩ := hr
  have hr2 : ∃ i, ab_dr 1 rest = ab_dr i (ab_zP Z y).1 := ⟨i + 1, by rw [hi]; exact ab_dr_one _ _⟩
  have hn2 : ∀ e r, ab_dr 1 rest = e :: r → e.1 = pc + 1 + 3 := fun e r q => by
    cases rest with
    | nil => cases q
    | cons e2 r2 => exact hn e2 e r (by rw [show r2 = e :: r from q])
  unfold ab_i23 at hx
  split at hx
  · intro H ls st locs a1 a2 a3 a4
    obtain ⟨x, st1, rfl, ⟨rfl, b3, b4⟩, b5⟩ := a3.cons
    obtain ⟨x', st2, rfl, ⟨rfl, c3, c4⟩, c5⟩ := b5.cons
    obtain ⟨G', g1, g2, g3⟩ := ab_br_ok hs h5 c4 b4 hx
    have go := ab_cnd hih hc hr2 hn2 hg g1 g2 hk g3
    rw [g3] at go
    exact ab_w23 hc.1 hc.2.1 h5 hd hd2 ht c3 b3 (go H ls _ locs a1 a2 c5 a4)
  · cases hx
end ST2
end
section
/-! STEPS: the table's jump; fields, new objects, rows of numbers, returns. -/
theorem ab_at_eq {α : Type} : ∀ (l : List α) (i : Nat), ab_at l i = l[i]?
  | [], _ => rfl
  | _ :: _, 0 => rfl
  | a :: l, i + 1 => by
    show ab_at l i = _
    rw [ab_at_eq l i]
    rfl
def ab_EL (Z : ab_ZT) (y pc k : Nat) (A : Int) (x1 x2 : Nat) (Xs : List Nat) (ins : Instr) (len : Nat) : Prop :=
  match k with
  | 30 => len = 3 ∧ ∃ i, ins = .getfield i ∧ Cond.fieldLink (ab_zY Z y).cls i ((ab_zCT Z x1).2 x2).1 ((ab_zCT Z x1).2 x2).2.1 ((ab_zCT Z x1).2 x2).2.2.1 ∈ ab_zTW Z ∧ x2 < ab_zNF Z x1 ∧ A.toNat = ab_zFT Z x1 x2 ∧ ab_CL (ab_zcl Z) (ab_zNF Z) (ab_zFT Z) (ab_zTW Z) x1 (ab_zCT Z x1).1 (ab_zCT Z x1).2
  | 31 => len = 3 ∧ ∃ i, ins = .putfield i ∧ Cond.fieldLink (ab_zY Z y).cls i ((ab_zCT Z x1).2 x2).1 ((ab_zCT Z x1).2 x2).2.1 ((ab_zCT Z x1).2 x2).2.2.1 ∈ ab_zTW Z ∧ x2 < ab_zNF Z x1 ∧ A.toNat = ab_zFT Z x1 x2 ∧ ab_CL (ab_zcl Z) (ab_zNF Z) (ab_zFT Z) (ab_zTW Z) x1 (ab_zCT Z x1).1 (ab_zCT Z x1).2 ∧
      (((ab_zCT Z x1).2 x2).2.2.2 = true → (ab_zY Z y).name = "<init>" ∧ ((ab_zCT Z x1).2 x2).1 = (ab_zY Z y).cls)
  | 32 => len = 3 ∧ ∃ i, ins = .new i ∧ Cond.classLink (ab_zY Z y).cls i (ab_zCT Z x1).1 ∈ ab_zTW Z ∧ Cond.instantiable (ab_zCT Z x1).1 (ab_zNF Z x1) ∈ ab_zTW Z ∧ Cond.initialized (ab_zCT Z x1).1 ∈ ab_zTW Z ∧ ab_CL (ab_zcl Z) (ab_zNF Z) (ab_zFT Z) (ab_zTW Z) x1 (ab_zCT Z x1).1 (ab_zCT Z x1).2
  | 34 => len = 2 ∧ ab_k34 ins x1 ∧ Cond.arrayClass (ab_et x1) ∈ ab_zTW Z
  | 36 => len = 3 ∧ ∃ i, ins = .anewarray i ∧ Cond.classLink (ab_zY Z y).cls i (FieldType.array .long).toString ∈ ab_zTW Z
  | 37 => len = 1 ∧ ins = .arraylength
  | 38 => len = 1 ∧ ((x1 = 3 ∧ ins = .aaload) ∨ (x1 ≤ 2 ∧ ab_k38 ins x1))
  | 39 => len = 1 ∧ ab_k39 ins x1
  | 41 => len = 3 ∧ 1 ≤ ab_zFR Z y ∧ 52 ≤ ab_zLO Z y ∧ ∃ i, ins = .invokespecial i ∧ Cond.methodLink (ab_zY Z y).cls i Lib.objectInit ∈ ab_zTW Z ∧ Cond.instanceMethod Lib.objectInit ∈ ab_zTW Z ∧ Cond.code Lib.objectInit ⟨#[0xb1]⟩ 1 none ∈ ab_zTW Z
  | 50 => len = 1 ∧ ins = .return_ ∧ ab_zRT Z y = none
  | 51 => len = 1 ∧ ((ins = .ireturn ∧ x1 = 0 ∧ ab_zRT Z y = some .int) ∨ (ins = .lreturn ∧ x1 = 1 ∧ ab_zRT Z y = some .long) ∨ (ins = .areturn ∧ x1 = 2 ∧ ∃ rt, ab_zRT Z y = some rt ∧ ((∃ n, rt = .object n) ∨ ∃ t, rt = .array t)))
  | 52 => len = 1 ∧ ins = .ireturn ∧ ab_zRT Z y = some .boolean
  | _ => True
theorem ab_vS_new {A : Nat → Prop} {H0 H H1 : Heap} {locs : List Loc} (h : va_S A H0 H locs) {n : Nat} (hz : H1.size = H.size + n) (ho : ∀ q : Nat, q < H.size → H1[q]? = H[q]?) : va_S A H0 H1 locs :=
  ⟨by rw [hz]; exact Nat.le_trans h.1 (Nat.le_add_right _ _), fun q h1 h2 => (ho q (Nat.lt_of_lt_of_le h1 h.1)).trans (h.2.1 q h1 h2), h.2.2⟩
theorem ab_ad_new {U : ab_UT} {c : Nat} (h : c ≠ 0) : ab_nA U (ab_ad U.2.2.1 U.2.2.2 c) := by
  cases c with
  | zero => exact (h rfl).elim
  | succ k => exact Nat.le_add_right _ _
section ST3
variable {Z : ab_ZT} {U : ab_UT} {F : ab_X} {y : Nat} {X : ab_XT} {ρ : Nat → Int} {cuts : List Nat} {pc : Nat} {A : Int} {x1 x2 : Nat} {Xs : List Nat} {rest : List ab_E} {L : ab_L} {S : List ab_V} {G : ab_G} {h : ab_H} {cn sn : Nat} {k : ab_K} {ins : Instr} {len : Nat}
theorem ab_w24 (hih : ab_Ok Z U F) (hc : ab_Cx Z U y X) (hk : ab_Hk Z U y X G.1 ρ k) (hd : decode (ab_zCB Z y) pc = .ok (ins, len)) (hE : ab_EK Z y pc 24 A x1 x2 Xs rest ins len) {z : Int} (hz : ab_R 0 z) {G' : ab_G} {S' : List ab_V} (hs : ab_Sat ρ G') (hg : G'.1 = G.1)
    (hx : F y cuts false (ab_dr (ab_tb A x1 Xs z) (ab_zP Z y).1) L S' G' h cn sn k = true) {H : Heap} {ls : Array Slot} {st : List Value} {locs : List Loc} (a1 : ab_rH Z U G.1 ρ h H) (a2 : ab_rL U G.1 ρ (ab_zML Z y) L ls) (a3 : ab_rS U G.1 ρ S' st) (a4 : va_S (ab_nA U) (ab_xs X).heap H locs) : ab_W X H locs cn sn (F0 (ab_xm X) pc ls (.int (Int32.ofInt z) :: st)) := by
  obtain ⟨dflt, lo, hi, offs, tgt, rfl, rfl, rfl, ht, hg0, hcs⟩ := hE
  have hE : ab_Ext G.1 ρ G'.1 ρ := by rw [hg]; exact ab_Ext.rf _ _
  have ez := ab_t32 hz
  have out : (z < lo ∨ lo + (Xs.length : Int) - 1 < z) → ab_tb lo x1 Xs z = x1 → ab_W X H locs cn sn (F0 (ab_xm X) pc ls (.int (Int32.ofInt z) :: st)) := fun q e => by
    rw [e] at hx
    have go := ab_jp hih hc hx hg0 hs hk hE H ls st locs
    rw [hg] at go
    exact lv_tableOut hc.1 hc.2.1 hd (by rw [ez]; exact q) ht (go a1 a2 a3 a4)
  cases hb : ab_le lo z
  · have e : ab_tb lo x1 Xs z = x1 := by unfold ab_tb; rw [hb]; rfl
    exact out (Or.inl (ab_nle hb)) e
  · have hle := (ab_le_iff _ _).mp hb
    cases hq : ab_at Xs (z - lo).toNat with
    | none =>
      have e : ab_tb lo x1 Xs z = x1 := by unfold ab_tb; rw [hb, cond_true, hq]
      rw [ab_at_eq, List.getElem?_eq_none_iff] at hq
      exact out (Or.inr (by omega)) e
    | some t =>
      have e : ab_tb lo x1 Xs z = t := by unfold ab_tb; rw [hb, cond_true, hq]
      obtain ⟨off, t2, o1, o2, o3⟩ := hcs _ _ hq
      rw [ab_at_eq] at hq
      have hlt := (List.getElem?_eq_some_iff.mp hq).1
      rw [e] at hx
      have go := ab_jp hih hc hx o3 hs hk hE H ls st locs
      rw [hg] at go
      exact lv_tableIn hc.1 hc.2.1 hd (by rw [ez]; omega) (by rw [ez]; omega) (by rw [ez]; exact o1) o2 (go a1 a2 a3 a4)
theorem ab_st24 (hih : ab_Ok Z U F) (hc : ab_Cx Z U y X) (hs : ab_Sat ρ G) (hk : ab_Hk Z U y X G.1 ρ k) (hd : decode (ab_zCB Z y) pc = .ok (ins, len)) (hE : ab_EK Z y pc 24 A x1 x2 Xs rest ins len)
    (hx : ab_i24 A x1 Xs S G (fun S' t G' => F y cuts false (ab_dr t (ab_zP Z y).1) L S' G' h cn sn k) = true) : ab_Go Z U y X ρ G.1 pc S L h cn sn := by
  unfold ab_i24 at hx
  split at hx
  · rename_i a0 S'
    intro H ls st locs a1 a2 a3 a4
    obtain ⟨x, st1, rfl, ⟨rfl, b3, b4⟩, b5⟩ := a3.cons
    obtain ⟨n1, n2⟩ := ab_nm_ok hs b4
    split at hx
    · rename_i z hz
      rw [hz] at n2
      have n3 : z = ab_sv ρ a0 := n2
      rw [n3] at hx
      exact ab_w24 hih hc hk hd hE b3 hs rfl hx a1 a2 b5 a4
    · rename_i i hi
      rw [hi] at n1 n2
      have n3 : ρ i = ab_sv ρ a0 := n2
      have iv : (ab_ivI G i).1 ≤ ρ i ∧ ρ i ≤ (ab_ivI G i).2 := ab_iv_ok hs (s := .inr i) n1
      rw [← n3] at b3 ⊢
      obtain ⟨q1, q2⟩ := ab_an hx
      obtain ⟨q2, q3⟩ := ab_an q2
      have e0 : ∀ z, z < A → ab_tb A x1 Xs z = x1 := fun z hz => by
        unfold ab_tb
        cases hb : ab_le A z
        · rfl
        · have := (ab_le_iff _ _).mp hb
          omega
      have e1 : ∀ z, A + (Xs.length : Int) ≤ z → ab_tb A x1 Xs z = x1 := fun z hz => by
        unfold ab_tb
        cases hb : ab_le A z
        · rfl
        · have : Xs[(z - A).toNat]? = none := List.getElem?_eq_none (by omega)
          rw [cond_true, ab_at_eq, this]
      by_cases c1 : ρ i < A
      · rcases ab_or q1 with q | q
        · have := (ab_le_iff _ _).mp q
          omega
        · have hs' := ab_ct_ok hs (a := .inr i) n1 (p := (ab_ivI G i).1) (q := ab_min (ab_ivI G i).2 (A - 1)) ⟨iv.1, by rw [ab_min_eq]; show ρ i ≤ _; omega⟩
          exact ab_w24 hih hc hk hd hE b3 hs'.1 hs'.2 (by rw [e0 _ c1]; exact q) a1 a2 b5 a4
      · by_cases c2 : A + (Xs.length : Int) ≤ ρ i
        · rcases ab_or q2 with q | q
          · have := (ab_le_iff _ _).mp q
            have e9 : Int.ofNat Xs.length = (Xs.length : Int) := rfl
            omega
          · have hs' := ab_ct_ok hs (a := .inr i) n1 (p := ab_max (ab_ivI G i).1 (A + .ofNat Xs.length)) (q := (ab_ivI G i).2) ⟨by rw [ab_max_eq]; show _ ≤ ρ i; have e9 : Int.ofNat Xs.length = (Xs.length : Int) := rfl; omega, iv.2⟩
            exact ab_w24 hih hc hk hd hE b3 hs'.1 hs'.2 (by rw [e1 _ c2]; exact q) a1 a2 b5 a4
        · have q4 := ab_spl_ok q3 (ρ i) (by rw [ab_max_eq]; omega) (by
            rw [ab_max_eq, ab_min_eq]
            have e9 : Int.ofNat Xs.length = (Xs.length : Int) := rfl
            omega)
          have hs' := ab_ct_ok hs (a := .inr i) n1 (p := ρ i) (q := ρ i) ⟨Int.le_refl _, Int.le_refl _⟩
          exact ab_w24 hih hc hk hd hE b3 hs'.1 hs'.2 q4 a1 a2 b5 a4
  · cases hx
theorem ab_st25 (hih : ab_Ok Z U F) (hc : ab_Cx Z U y X) (hs : ab_Sat ρ G) (hk : ab_Hk Z U y X G.1 ρ k) (hd : decode (ab_zCB Z y) pc = .ok (ins, len)) (hE : ab_EK Z y pc 25 A x1 x2 Xs rest ins len)
    (hx : ab_i25 A S G (fun S' => F y cuts false (ab_dr x1 (ab_zP Z y).1) L S' G h cn sn k) = true) : ab_Go Z U y X ρ G.1 pc S L h cn sn := by
  obtain ⟨dflt, ps, off, tgt, rfl, hp, ho, ht, hg⟩ := hE
  unfold ab_i25 at hx
  split at hx
  · rename_i a0 S'
    intro H ls st locs a1 a2 a3 a4
    obtain ⟨x, st1, rfl, ⟨rfl, b3, b4⟩, b5⟩ := a3.cons
    obtain ⟨n1, n2⟩ := ab_nm_ok hs b4
    split at hx
    · rename_i z hz
      rw [hz] at n2
      have n3 : z = ab_sv ρ a0 := n2
      obtain ⟨q1, q2⟩ := ab_an hx
      have e1 : z = A := (ab_eq_iff _ _).mp q1
      have e2 : ab_sv ρ a0 = A := n3.symm.trans e1
      rw [e2] at b3 ⊢
      exact lv_lookup hc.1 hc.2.1 hd hp (by rw [ab_t32 b3]; exact ho) ht (ab_jp hih hc q2 hg hs hk (ab_Ext.rf _ _) H ls _ locs a1 a2 b5 a4)
    · cases hx
  · cases hx
theorem ab_st30 (hih : ab_Ok Z U F) (hc : ab_Cx Z U y X) (hs : ab_Sat ρ G) (hk : ab_Hk Z U y X G.1 ρ k) (hd : decode (ab_zCB Z y) pc = .ok (ins, len)) (hr : ∃ i, rest = ab_dr i (ab_zP Z y).1) (hn : ∀ e r, rest = e :: r → e.1 = pc + len) (hE : ab_EL Z y pc 30 A x1 x2 Xs ins len)
    (hx : ab_i30 (ab_zBS Z) x1 x2 A.toNat S h (fun S' => F y cuts false rest L S' G h cn sn k) = true) : ab_Go Z U y X ρ G.1 pc S L h cn sn := by
  obtain ⟨rfl, i, rfl, hl, h2, h3, hCL⟩ := hE
  unfold ab_i30 at hx
  split at hx
  · rename_i c S'
    split at hx
    · rename_i cj fs hcl
      obtain ⟨q1, q2⟩ := ab_an hx
      have ec : x1 = cj := ab_beq q1
      subst ec
      have q3 : F y cuts false rest L (ab_fv (ab_zFT Z) x1 fs x2 :: S') G h cn sn k = true := by
        unfold ab_fv
        rw [← h3]
        split at q2
        · rename_i v hv
          rw [hv]
          exact q2
        · rename_i hv
          rw [hv]
          exact q2
      intro H ls st locs a1 a2 a3 a4
      obtain ⟨x, st1, rfl, b1, b5⟩ := a3.cons
      have ex : x = .ref (ab_ad U.2.2.1 U.2.2.2 c) := b1
      subst ex
      exact ab_w30 hc.1 hc.2.1 hc.2.2.2.2.2.2.2.1 hc.2.2.2.1 hc.2.2.2.2.2.2.2.2.1.1 hCL h2 hl ((a1.2.2 _ _ hcl).2) hd (fun x hv => ab_nx hih hc q3 hr hn hs hk (ab_Ext.rf _ _) H ls _ locs a1 a2 ⟨hv, b5⟩ a4)
    · cases hx
  · cases hx
theorem ab_st31 (hih : ab_Ok Z U F) (hc : ab_Cx Z U y X) (hs : ab_Sat ρ G) (hk : ab_Hk Z U y X G.1 ρ k) (hd : decode (ab_zCB Z y) pc = .ok (ins, len)) (hr : ∃ i, rest = ab_dr i (ab_zP Z y).1) (hn : ∀ e r, rest = e :: r → e.1 = pc + len) (hE : ab_EL Z y pc 31 A x1 x2 Xs ins len)
    (hx : ab_i31 (ab_zBS Z) x1 x2 A.toNat S G h (fun S' h' => F y cuts false rest L S' G h' cn sn k) = true) : ab_Go Z U y X ρ G.1 pc S L h cn sn := by
  obtain ⟨rfl, i, rfl, hl, h2, h3, hCL, hfin⟩ := hE
  unfold ab_i31 at hx
  split at hx
  · rename_i v c S'
    split at hx
    · rename_i cj fs hcl
      obtain ⟨q1, q2⟩ := ab_an hx
      rcases ab_if q1 with ⟨_, q⟩ | ⟨q0, q1⟩
      · cases q
      obtain ⟨q1, q4⟩ := ab_an q1
      have ec : x1 = cj := ab_beq q1
      subst ec
      have hc0 : c ≠ 0 := Nat.ne_of_beq_eq_false q0
      intro H ls st locs a1 a2 a3 a4
      obtain ⟨x, st1, rfl, b1, b5⟩ := a3.cons
      obtain ⟨x', st2, rfl, c1, c5⟩ := b5.cons
      have ex : x' = .ref (ab_ad U.2.2.1 U.2.2.2 c) := c1
      subst ex
      refine ab_w31 hc.1 hc.2.1 hc.2.2.2.2.2.2.2.1 hc.2.2.2.1 hc.2.2.2.2.2.2.2.2.1.1 hCL h2 hl (fun q => ⟨hc.2.2.2.2.1.trans (hfin q).1, (hfin q).2⟩) ((a1.2.2 _ _ hcl).2) hd (b1.nm hs) (fun ty hty => ab_fit_ok hs (by rw [h3]; exact hty) b1 q4) (fun H1 j g1 g2 g3 => ?_)
      exact ab_nx hih hc q2 hr hn hs hk (ab_Ext.rf _ _) H1 ls _ _ (a1.put hc.2.2.2.2.2.2.2.2.2.2.2.1 hcl g1 g2 g3) a2 c5 (a4.put g2 g3 (ab_ad_new hc0))
    · cases hx
  · cases hx
theorem ab_rm_ok (hc : ab_Cx Z U y X) {a b : Nat} (h : ab_rm (ab_zP Z) y a b = true) : a ≤ (ab_xR X).cells ∧ b ≤ (ab_xR X).slots := by
  obtain ⟨h1, h2⟩ := ab_an h
  have hR := hc.2.2.2.2.2.2.2.2.2.2.1
  rw [hR.2.2.1, hR.2.2.2]
  exact ⟨ab_ble h1, ab_ble h2⟩
theorem ab_st32 (hih : ab_Ok Z U F) (hc : ab_Cx Z U y X) (hs : ab_Sat ρ G) (hk : ab_Hk Z U y X G.1 ρ k) (hd : decode (ab_zCB Z y) pc = .ok (ins, len)) (hr : ∃ i, rest = ab_dr i (ab_zP Z y).1) (hn : ∀ e r, rest = e :: r → e.1 = pc + len) (hE : ab_EL Z y pc 32 A x1 x2 Xs ins len)
    (hx : (bif ab_rm (ab_zP Z) y (cn + 1) (sn + ab_zNF Z x1) then F y cuts false rest L (.inr (.inl h.1) :: S) G (ab_new h (.inl (x1, []))) (cn + 1) (sn + ab_zNF Z x1) k else false) = true) : ab_Go Z U y X ρ G.1 pc S L h cn sn := by
  obtain ⟨rfl, i, rfl, hl, h2, h3, hCL⟩ := hE
  obtain ⟨q1, q2⟩ := ab_an hx
  obtain ⟨r1, r2⟩ := ab_rm_ok hc q1
  intro H ls st locs a1 a2 a3 a4
  refine ab_w32 (ρ := ρ) (n := G.1) (b := U.2.2.1) (B := U.2.2.2) (dA := U.2.1) hc.1 hc.2.1 hc.2.2.2.2.2.2.2.1 hc.2.2.2.1 hc.2.2.2.2.2.2.2.2.1.1 hCL hl h2 (hc.2.2.2.2.2.2.2.1 _ h3) r1 r2 hd (fun H1 g1 g2 g3 => ?_)
  exact ab_nx hih hc q2 hr hn hs hk (ab_Ext.rf _ _) H1 ls _ _ (a1.new hc.2.2.2.2.2.2.2.2.2.2.2.1 g1 g2 g3) a2 ⟨(by show Value.ref H.size = .ref _; rw [a1.addr]), a3⟩ (ab_vS_new a4 g2 g3)
theorem ab_st34 (hih : ab_Ok Z U F) (hc : ab_Cx Z U y X) (hs : ab_Sat ρ G) (hk : ab_Hk Z U y X G.1 ρ k) (hd : decode (ab_zCB Z y) pc = .ok (ins, len)) (hr : ∃ i, rest = ab_dr i (ab_zP Z y).1) (hn : ∀ e r, rest = e :: r → e.1 = pc + len) (hE : ab_EL Z y pc 34 A x1 x2 Xs ins len)
    (hx : ab_i34 x1 S G h (fun S' h' n => bif ab_rm (ab_zP Z) y (cn + 1) (sn + n) then F y cuts false rest L S' G h' (cn + 1) (sn + n) k else false) = true) : ab_Go Z U y X ρ G.1 pc S L h cn sn := by
  obtain ⟨rfl, h1, h2⟩ := hE
  unfold ab_i34 at hx
  split at hx
  · rename_i a0 S'
    split at hx
    · rename_i n hnm
      obtain ⟨q1, q2⟩ := ab_an hx
      obtain ⟨q3, q4⟩ := ab_an q2
      obtain ⟨r1, r2⟩ := ab_rm_ok hc q3
      intro H ls st locs a1 a2 a3 a4
      obtain ⟨x, st1, rfl, ⟨rfl, b3, b4⟩, b5⟩ := a3.cons
      obtain ⟨n1, n2⟩ := ab_nm_ok hs b4
      rw [hnm] at n2
      have n3 : Int.ofNat n = ab_sv ρ a0 := n2
      rw [← n3]
      refine ab_w34 (ρ := ρ) (n := G.1) (b := U.2.2.1) (B := U.2.2.2) (NF := ab_zNF Z) (FT := ab_zFT Z) hc.1 hc.2.1 hc.2.2.2.2.2.2.2.1 hc.2.2.2.2.2.2.2.2.1.1 h1 h2 (ab_ble q1) r1 r2 hd (fun H1 g1 g2 g3 => ?_)
      exact ab_nx hih hc q4 hr hn hs hk (ab_Ext.rf _ _) H1 ls _ _ (a1.new hc.2.2.2.2.2.2.2.2.2.2.2.1 g1 g2 g3) a2 ⟨(by show Value.ref H.size = .ref _; rw [a1.addr]), b5⟩ (ab_vS_new a4 g2 g3)
    · cases hx
  · cases hx
theorem ab_st37 (hih : ab_Ok Z U F) (hc : ab_Cx Z U y X) (hs : ab_Sat ρ G) (hk : ab_Hk Z U y X G.1 ρ k) (hd : decode (ab_zCB Z y) pc = .ok (ins, len)) (hr : ∃ i, rest = ab_dr i (ab_zP Z y).1) (hn : ∀ e r, rest = e :: r → e.1 = pc + len) (hE : ab_EL Z y pc 37 A x1 x2 Xs ins len)
    (hx : ab_i37 (ab_zBS Z) S h (fun S' => F y cuts false rest L S' G h cn sn k) = true) : ab_Go Z U y X ρ G.1 pc S L h cn sn := by
  obtain ⟨rfl, rfl⟩ := hE
  unfold ab_i37 at hx
  split at hx
  · rename_i c S'
    split at hx
    · rename_i ty n ct hcl
      rcases ab_if hx with ⟨_, q⟩ | ⟨q0, q1⟩
      · cases q
      intro H ls st locs a1 a2 a3 a4
      obtain ⟨x, st1, rfl, b1, b5⟩ := a3.cons
      have ex : x = .ref (ab_ad U.2.2.1 U.2.2.2 c) := b1
      subst ex
      rcases (a1.2.2 _ _ hcl).2 with ⟨g, _⟩ | ⟨g1, g2, z, g3, g4⟩
      · exact (Nat.ne_of_beq_eq_false q0 g).elim
      · refine ab_w37 hc.1 hc.2.1 hc.2.2.2.2.2.2.2.2.1.1 g1 g3 hd (ab_nx hih hc q1 hr hn hs hk (ab_Ext.rf _ _) H ls _ locs a1 a2 ⟨⟨rfl, ?_, trivial⟩, b5⟩ a4)
        show ab_R 0 (Int.ofNat n)
        have e9 : Int.ofNat n = (n : Int) := rfl
        constructor
        · rw [ab_lo0]; omega
        · rw [ab_hi0]; omega
    · cases hx
  · cases hx
theorem ab_st41 (hih : ab_Ok Z U F) (hc : ab_Cx Z U y X) (hs : ab_Sat ρ G) (hk : ab_Hk Z U y X G.1 ρ k) (hd : decode (ab_zCB Z y) pc = .ok (ins, len)) (hr : ∃ i, rest = ab_dr i (ab_zP Z y).1) (hn : ∀ e r, rest = e :: r → e.1 = pc + len) (hE : ab_EL Z y pc 41 A x1 x2 Xs ins len)
    (hx : (match S with
      | .inr (.inl _) :: S' => bif Nat.ble S'.length 20 then F y cuts false rest L S' G h cn sn k else false
      | _ => false) = true) : ab_Go Z U y X ρ G.1 pc S L h cn sn := by
  obtain ⟨rfl, h1, h2, i, rfl, w1, w2, w3⟩ := hE
  split at hx
  · rename_i c S'
    obtain ⟨q1, q2⟩ := ab_an hx
    intro H ls st locs a1 a2 a3 a4
    obtain ⟨x, st1, rfl, b1, b5⟩ := a3.cons
    have ex : x = .ref (ab_ad U.2.2.1 U.2.2.2 c) := b1
    subst ex
    have hw := b5.words
    have hq := ab_ble q1
    have hR := hc.2.2.2.2.2.2.2.2.2.2.1
    obtain ⟨lv, hl, hl2⟩ := a2
    have a2' : ab_rL U G.1 ρ (ab_zML Z y) L ls := ⟨lv, hl, hl2⟩
    refine W.objInit hc.1 hc.2.1 hc.2.2.2.1 (hc.2.2.2.2.2.2.2.1 _ w1) (hc.2.2.2.2.2.2.2.1 _ w2) (hc.2.2.2.2.2.2.2.1 _ w3) rfl (by show ls.size = _; rw [hl.1, hc.2.2.1]) rfl hd (by rw [hR.1]; exact h1) (by rw [hR.2.1]; show 2 * 0 + _ + 12 ≤ _; omega) ?_
    exact ab_nx hih hc q2 hr hn hs hk (ab_Ext.rf _ _) H ls _ locs a1 a2' b5 a4
  · cases hx
theorem ab_st50 (hc : ab_Cx Z U y X) (hs : ab_Sat ρ G) (hk : ab_Hk Z U y X G.1 ρ k) (hd : decode (ab_zCB Z y) pc = .ok (ins, len)) (hE : ab_EL Z y pc 50 A x1 x2 Xs ins len)
    (hx : (match S with
      | [] => k 0 pc [] L G h cn sn
      | _ :: _ => false) = true) : ab_Go Z U y X ρ G.1 pc S L h cn sn := by
  obtain ⟨rfl, rfl, h1⟩ := hE
  split at hx
  · intro H ls st locs a1 a2 a3 a4
    have e := a3.nil
    subst e
    exact hk 0 pc [] L G h cn sn ρ hx (ab_Ext.rf _ _) hs _ pc H ls [] locs hd ⟨h1, rfl⟩ a1 trivial a4
  · cases hx
theorem ab_st51 (hc : ab_Cx Z U y X) (hs : ab_Sat ρ G) (hk : ab_Hk Z U y X G.1 ρ k) (hd : decode (ab_zCB Z y) pc = .ok (ins, len)) (hE : ab_EL Z y pc 51 A x1 x2 Xs ins len)
    (hx : (match S with
      | [v] => bif ab_tag x1 v then k 0 pc [ab_nmV G v] L G h cn sn else false
      | _ => false) = true) : ab_Go Z U y X ρ G.1 pc S L h cn sn := by
  obtain ⟨rfl, hE⟩ := hE
  split at hx
  · rename_i v
    obtain ⟨q1, q2⟩ := ab_an hx
    intro H ls st locs a1 a2 a3 a4
    obtain ⟨x, st1, rfl, b1, b5⟩ := a3.cons
    have e := b5.nil
    subst e
    refine hk 0 pc [ab_nmV G v] L G h cn sn ρ q2 (ab_Ext.rf _ _) hs ins pc H ls [x] locs hd ?_ a1 ⟨b1.nm hs, trivial⟩ a4
    rcases hE with ⟨rfl, rfl, hr⟩ | ⟨rfl, rfl, hr⟩ | ⟨rfl, rfl, hr⟩
    · obtain ⟨z, rfl⟩ := ab_tag0 q1
      exact Or.inl ⟨hr, _, by rw [b1.1]⟩
    · obtain ⟨z, rfl⟩ := ab_tag1 q1
      exact ⟨hr, _, by rw [b1.1]⟩
    · obtain ⟨a, rfl⟩ := ab_tag2 q1 b1
      exact ⟨hr, _, rfl⟩
  · cases hx
theorem ab_st52 (hc : ab_Cx Z U y X) (hs : ab_Sat ρ G) (hk : ab_Hk Z U y X G.1 ρ k) (hd : decode (ab_zCB Z y) pc = .ok (ins, len)) (hE : ab_EL Z y pc 52 A x1 x2 Xs ins len)
    (hx : (match S with
      | [v] => bif ab_fit G 2 v then k 0 pc [ab_nmV G v] L G h cn sn else false
      | _ => false) = true) : ab_Go Z U y X ρ G.1 pc S L h cn sn := by
  obtain ⟨rfl, rfl, hr⟩ := hE
  split at hx
  · rename_i v
    obtain ⟨q1, q2⟩ := ab_an hx
    intro H ls st locs a1 a2 a3 a4
    obtain ⟨x, st1, rfl, b1, b5⟩ := a3.cons
    have e := b5.nil
    subst e
    obtain ⟨g1, g2⟩ := ab_fit_ok hs (t := 2) (ty := .boolean) rfl b1 q1
    refine hk 0 pc [ab_nmV G v] L G h cn sn ρ q2 (ab_Ext.rf _ _) hs _ pc H ls [x] locs hd (Or.inr ⟨hr, ?_⟩) a1 ⟨b1.nm hs, trivial⟩ a4
    cases x with
    | int z => exact ⟨z, rfl, g1⟩
    | _ => cases g2
  · cases hx
end ST3
end
section
/-! STEPS: loads and stores of rows, rows of rows. -/
theorem ab_fit_ty {b B : Nat} {ρ : Nat → Int} {G : ab_G} (hs : ab_Sat ρ G) {t : Nat} {v : ab_V} {x : Value} (ht : t ≤ 2) (h : ab_RV b B G.1 ρ v x) (hf : ab_fit G t v = true) : ab_ty t x := by
  match t, ht with
  | 0, _ =>
    have := (ab_fit_ok hs (t := 0) (ty := .int) rfl h hf).2
    cases x with
    | int z => exact ⟨z, rfl⟩
    | _ => cases this
  | 1, _ =>
    have := (ab_fit_ok hs (t := 1) (ty := .long) rfl h hf).2
    cases x with
    | long z => exact ⟨z, rfl⟩
    | _ => cases this
  | 2, _ =>
    have := (ab_fit_ok hs (t := 2) (ty := .boolean) rfl h hf).2
    cases x with
    | int z =>
      have h2 : (z == 0 || z == 1) = true := this
      rcases Bool.or_eq_true_iff.mp h2 with q | q
      · exact Or.inl (by rw [show z = 0 from eq_of_beq q])
      · exact Or.inr (by rw [show z = 1 from eq_of_beq q])
    | _ => cases this
  | _ + 3, h => omega
theorem ab_any_ok {b B : Nat} {ρ : Nat → Int} {G : ab_G} (hs : ab_Sat ρ G) {ty : Nat} {x : Value} (hx : ab_ty ty x) {f : ab_V → ab_G → Bool} (h : ab_any G ty f = true) : ∃ v G' ρ', f v G' = true ∧ ab_Ext G.1 ρ G'.1 ρ' ∧ ab_Sat ρ' G' ∧ ab_RV b B G'.1 ρ' v x := by
  unfold ab_any at h
  rcases ab_if h with ⟨q1, q2⟩ | ⟨-, h⟩
  · have e : ty = 0 := ab_beq q1
    subst e
    obtain ⟨v, rfl⟩ := hx
    obtain ⟨s1, G', ρ', f1, f2, f3, f4, f5⟩ := ab_fr_ok hs (z := v.toInt) (ab_R32 v) q2
    refine ⟨_, G', ρ', f1, f2, f3, ?_, ?_, f4⟩
    · rw [f5, Int32.ofInt_toInt]
    · rw [f5]; exact ab_R32 v
  · rcases ab_if h with ⟨q1, q2⟩ | ⟨-, h⟩
    · have e : ty = 1 := ab_beq q1
      subst e
      obtain ⟨v, rfl⟩ := hx
      obtain ⟨s1, G', ρ', f1, f2, f3, f4, f5⟩ := ab_fr_ok hs (z := v.toInt) (ab_R64 (k := 1) rfl v) q2
      refine ⟨_, G', ρ', f1, f2, f3, ?_, ?_, f4⟩
      · rw [f5, Int64.ofInt_toInt]
      · rw [f5]; exact ab_R64 rfl v
    · rcases ab_if h with ⟨q1, q2⟩ | ⟨-, h⟩
      · have e : ty = 2 := ab_beq q1
        subst e
        have go : ∀ z : Int, 0 ≤ z ∧ z ≤ 1 → x = .int (Int32.ofInt z) → ∃ v G' ρ', f v G' = true ∧ ab_Ext G.1 ρ G'.1 ρ' ∧ ab_Sat ρ' G' ∧ ab_RV b B G'.1 ρ' v x := fun z hz e => by
          obtain ⟨s1, G', ρ', f1, f2, f3, f4, f5⟩ := ab_fr_ok hs (z := z) hz q2
          refine ⟨_, G', ρ', f1, f2, f3, ?_, ?_, f4⟩
          · rw [f5, e]
          · rw [f5]
            constructor
            · rw [ab_lo0]; omega
            · rw [ab_hi0]; omega
        rcases hx with e | e
        · exact go 0 ⟨by omega, by omega⟩ e
        · exact go 1 ⟨by omega, by omega⟩ e
      · cases h
/-- what a row holds -/
def ab_rA (b B n : Nat) (ρ : Nat → Int) (ct : ab_A) (j : Nat) (x : Value) : Prop := match ct with
  | none => True
  | some (d, l) => ab_RV b B n ρ (ab_el d l j) x
theorem ab_el_self {d v : ab_V} {l : ab_L} {j : Nat} : ab_el d ((j, v) :: l) j = v := by unfold ab_el; rw [ab_lk_self]
theorem ab_el_ne {d v : ab_V} {l : ab_L} {i j : Nat} (h : i ≠ j) : ab_el d ((i, v) :: l) j = ab_el d l j := by unfold ab_el; rw [ab_lk_ne _ _ h]
theorem ab_aupd_ok {b B : Nat} {ρ : Nat → Int} {G : ab_G} (hs : ab_Sat ρ G) {ct : ab_A} {i : ab_S} (hi : ab_oS G.1 i) {v : ab_V} {x : Value} (hv : ab_RV b B G.1 ρ v x) (h0 : 0 ≤ ab_sv ρ i) {zf : Nat → Value} {j : Nat} (hz : ab_rA b B G.1 ρ ct j (zf j)) : ab_rA b B G.1 ρ (ab_aupd G ct i v) j (updV zf (ab_sv ρ i).toNat x j) := by
  have hv' := hv.nm hs
  obtain ⟨n1, n2⟩ := ab_nm_ok hs hi
  have up : ∀ (P : Value → Prop), (j = (ab_sv ρ i).toNat → P x) → (j ≠ (ab_sv ρ i).toNat → P (zf j)) → P (updV zf (ab_sv ρ i).toNat x j) := fun P p1 p2 => by
    unfold updV
    by_cases e : j = (ab_sv ρ i).toNat
    · rw [if_pos e]; exact p1 e
    · rw [if_neg e]; exact p2 e
  unfold ab_aupd
  match ct, hz with
  | none, _ => exact trivial
  | some (d, l), hz =>
    dsimp only
    split
    · rename_i z hzz
      rw [hzz] at n2
      have n3 : z = ab_sv ρ i := n2
      subst n3
      cases l with
      | nil =>
        dsimp only
        cases hq : ab_veq (ab_nmV G v) d
        · exact up (fun w => ab_rA b B G.1 ρ (some (d, [((ab_sv ρ i).toNat, ab_nmV G v)])) j w) (fun e => by subst e; show ab_RV _ _ _ _ (ab_el _ _ _) _; rw [ab_el_self]; exact hv') (fun e => by show ab_RV _ _ _ _ (ab_el _ _ _) _; rw [ab_el_ne (Ne.symm e)]; exact hz)
        · have e := ab_veq_iff hq
          exact up (fun w => ab_rA b B G.1 ρ (some (d, [])) j w) (fun _ => by rw [e] at hv'; exact hv') (fun _ => hz)
      | cons q l =>
        exact up (fun w => ab_rA b B G.1 ρ (some (d, ((ab_sv ρ i).toNat, ab_nmV G v) :: q :: l)) j w) (fun e => by subst e; show ab_RV _ _ _ _ (ab_el _ _ _) _; rw [ab_el_self]; exact hv') (fun e => by show ab_RV _ _ _ _ (ab_el _ _ _) _; rw [ab_el_ne (Ne.symm e)]; exact hz)
    · cases l with
      | nil =>
        dsimp only
        cases hq : ab_veq (ab_nmV G v) d
        · exact trivial
        · have e := ab_veq_iff hq
          exact up (fun w => ab_rA b B G.1 ρ (some (d, [])) j w) (fun _ => by rw [e] at hv'; exact hv') (fun _ => hz)
      | cons q l => exact trivial
theorem ab_ty_upd {t : Nat} {zf : Nat → Value} {i j : Nat} {x : Value} (hx : ab_ty t x) (hz : ab_ty t (zf j)) : ab_ty t (updV zf i x j) := by
  unfold updV
  by_cases e : j = i
  · rw [if_pos e]; exact hx
  · rw [if_neg e]; exact hz
theorem ab_RC_row {dC : Nat → ClassId} {dI : Nat → Nat → Nat} {dA : Nat → ClassId} {NF : Nat → Nat} {FT : Nat → Nat → Nat} {b B n : Nat} {ρ : Nat → Int} {ty len : Nat} {ct : ab_A} {oc : Option Cell} : ab_RC dC dI dA NF FT b B n ρ (.inr (ty, len, ct)) oc ↔ (ty = 9 ∧ ∃ ce, oc = some ce) ∨ (ty ≤ 4 ∧ len ≤ 1000000 ∧ ∃ z : Nat → Value, oc = some (arrV (dA ty) len z) ∧ ∀ j, j < len → ab_ty ty (z j) ∧ ab_rA b B n ρ ct j (z j)) := by
  match ct with
  | none => exact Iff.rfl
  | some (d, l) => exact Iff.rfl
theorem ab_overA {args : Array Value} {first s : State} {o : Option Outcome} {idx : List Nat} {t : FieldType} (h : (Cond.arrayOver (.array t)).holds args first o s idx = true) :
    ∃ comp c k, s.vm.findClass (FieldType.array t).toString = some comp ∧ (s.vm.classes.findIdx? fun (x : Class) => match x.kind with | .array component _ => component == comp | _ => false) = some c ∧ s.vm.classes[c]? = some k ∧ k.kind = .array comp (.array t) ∧ s.vm.findClass ("[" ++ (FieldType.array t).toString) = some c := by
  simp only [Cond.holds, Cond.value, beq_iff_eq] at h
  cases hc : s.vm.findClass (FieldType.array t).toString with
  | none => simp [hc] at h
  | some comp =>
    simp only [hc, Option.bind_some, Option.bind_eq_some_iff, Option.map_eq_some_iff] at h
    obtain ⟨c, hi, k, hk, hb⟩ := h
    have hp := (Array.findIdx?_eq_some_iff_getElem.mp hi).2.1
    rw [(Array.getElem?_eq_some_iff.mp hk).2] at hp
    cases hkind : k.kind with
    | array component ty =>
      rw [hkind] at hb hp
      simp at hb hp
      exact ⟨comp, c, k, rfl, hi, hk, by rw [hkind, hp, hb.1], hb.2⟩
    | _ => rw [hkind] at hb; simp at hb
theorem ab_k38_le {ins : Instr} {t : Nat} (h : ab_k38 ins t) : t ≤ 4 := by
  unfold ab_k38 at h
  split at h <;> first | exact h.elim | omega
def ab_EM (Z : ab_ZT) (y pc k : Nat) (A : Int) (x1 x2 : Nat) (Xs : List Nat) (ins : Instr) (len : Nat) : Prop :=
  match k with
  | 44 => len = 1 ∧ ins = .aastore
  | _ => True
section ST4
variable {Z : ab_ZT} {U : ab_UT} {F : ab_X} {y : Nat} {X : ab_XT} {ρ : Nat → Int} {cuts : List Nat} {pc : Nat} {A : Int} {x1 x2 : Nat} {Xs : List Nat} {pos rest : List ab_E} {L : ab_L} {S : List ab_V} {G : ab_G} {h : ab_H} {cn sn : Nat} {k : ab_K} {ins : Instr} {len : Nat}
theorem ab_in_ok (hs : ab_Sat ρ G) {i : ab_S} (hi : ab_oS G.1 i) {n : Nat} (h : ab_in n (ab_ivS G i).1 (ab_ivS G i).2 = true) : 0 ≤ ab_sv ρ i ∧ ab_sv ρ i < n := by
  obtain ⟨h1, h2⟩ := ab_an h
  have h3 := (ab_le_iff _ _).mp h1
  have h4 := (ab_le_iff _ _).mp h2
  have h5 := ab_iv_ok hs hi
  have e9 : Int.ofNat n = (n : Int) := rfl
  omega
theorem ab_st38 (hih : ab_Ok Z U F) (hc : ab_Cx Z U y X) (hs : ab_Sat ρ G) (hk : ab_Hk Z U y X G.1 ρ k) (hd : decode (ab_zCB Z y) pc = .ok (ins, len)) (hr : ∃ i, rest = ab_dr i (ab_zP Z y).1) (hn : ∀ e r, rest = e :: r → e.1 = pc + len) (hp : ∃ i, pos = ab_dr i (ab_zP Z y).1) (hpc : ∀ e r, pos = e :: r → e.1 = pc) (hE : ab_EL Z y pc 38 A x1 x2 Xs ins len)
    (hx : ab_i38 (ab_zBS Z) x1 S G h (fun S' G' => F y cuts false rest L S' G' h cn sn k) (fun G' => F y cuts true pos L S G' h cn sn k) = true) : ab_Go Z U y X ρ G.1 pc S L h cn sn := by
  obtain ⟨rfl, hE⟩ := hE
  unfold ab_i38 at hx
  split at hx
  · rename_i i c S'
    split at hx
    · rename_i tz n ct hcl
      obtain ⟨q1, q2⟩ := ab_an hx
      obtain ⟨q3, q4⟩ := ab_an q1
      have hkk : ab_k38 ins tz := by
        rcases ab_if q3 with ⟨g1, g2⟩ | ⟨g1, g2⟩
        · obtain ⟨g3, g4⟩ := ab_an g2
          rcases hE with ⟨e1, rfl⟩ | ⟨e1, -⟩
          · have := ab_ble g3
            have := ab_ble g4
            show tz = 3 ∨ tz = 4
            omega
          · have : x1 = 3 := ab_beq g1
            omega
        · rcases hE with ⟨e1, rfl⟩ | ⟨e1, e2⟩
          · exact (Nat.ne_of_beq_eq_false g1 e1).elim
          · rw [← show x1 = tz from ab_beq g2]
            exact e2
      intro H ls st locs a1 a2 a3 a4
      obtain ⟨x, st1, rfl, b0, b5⟩ := a3.cons
      obtain ⟨x', st2, rfl, c1, c5⟩ := b5.cons
      have ex : x' = .ref (ab_ad U.2.2.1 U.2.2.2 c) := c1
      subst ex
      have b0' := b0
      obtain ⟨rfl, b3, b4⟩ := b0
      obtain ⟨i1, i2⟩ := ab_in_ok hs b4 q4
      rcases ab_RC_row.mp (a1.2.2 _ _ hcl).2 with ⟨g, _⟩ | ⟨g1, g2, zf, g3, g4⟩
      · have := ab_k38_le hkk
        omega
      · have hj : (ab_sv ρ i).toNat < n := by omega
        obtain ⟨g5, g6⟩ := g4 _ hj
        have any : ab_any G tz (fun v G' => F y cuts false rest L (v :: S') G' h cn sn k) = true → ab_W X H locs cn sn (F0 (ab_xm X) pc ls (.int (Int32.ofInt (ab_sv ρ i)) :: .ref (ab_ad U.2.2.1 U.2.2.2 c) :: st2)) := fun q => by
          obtain ⟨v, G', ρ', f1, f2, f3, f4⟩ := ab_any_ok (b := U.2.2.1) (B := U.2.2.2) hs g5 q
          exact ab_w38 hc.1 hc.2.1 hc.2.2.2.2.2.2.2.2.1.1 hkk g3 g2 i1 i2 hd (ab_nx hih hc f1 hr hn f3 hk f2 H ls _ locs (a1.ext f2) (a2.ext f2) ⟨f4, c5.ext f2⟩ a4)
        have say : ∀ v, ab_rV U G.1 ρ v (zf (ab_sv ρ i).toNat) → F y cuts false rest L (v :: S') G h cn sn k = true → ab_W X H locs cn sn (F0 (ab_xm X) pc ls (.int (Int32.ofInt (ab_sv ρ i)) :: .ref (ab_ad U.2.2.1 U.2.2.2 c) :: st2)) := fun v hv q =>
          ab_w38 hc.1 hc.2.1 hc.2.2.2.2.2.2.2.2.1.1 hkk g3 g2 i1 i2 hd (ab_nx hih hc q hr hn hs hk (ab_Ext.rf _ _) H ls _ locs a1 a2 ⟨hv, c5⟩ a4)
        match ct, g6, q2 with
        | none, _, q2 => exact any q2
        | some (d, l), g6, q2 =>
          have g7 : ab_rV U G.1 ρ (ab_el d l (ab_sv ρ i).toNat) (zf (ab_sv ρ i).toNat) := g6
          obtain ⟨n1, n2⟩ := ab_nm_ok hs b4
          dsimp only at q2
          split at q2
          · rename_i z hz
            rw [hz] at n2
            have n3 : z = ab_sv ρ i := n2
            subst n3
            refine say _ g7 ?_
            unfold ab_el
            split at q2
            · rename_i v hv
              rw [hv]; exact q2
            · rename_i hv
              rw [hv]; exact q2
          · rename_i j hj2
            rw [hj2] at n1 n2
            have n3 : ρ j = ab_sv ρ i := n2
            split at q2
            · exact say d g7 q2
            · rcases ab_if q2 with ⟨e1, e2⟩ | ⟨-, e2⟩
              · obtain ⟨e3, e4⟩ := ab_an e2
                have iv : (ab_ivI G j).1 ≤ ρ j ∧ ρ j ≤ (ab_ivI G j).2 := ab_iv_ok hs (s := .inr j) n1
                have e5 := ab_spl_ok e4 (ρ j) iv.1 (by omega)
                have hs' := ab_ct_ok hs (a := .inr j) n1 (p := ρ j) (q := ρ j) ⟨Int.le_refl _, Int.le_refl _⟩
                have hE' : ab_Ext G.1 ρ (ab_ct G (.inr j) (ρ j) (ρ j)).1 ρ := by rw [hs'.2]; exact ab_Ext.rf _ _
                have go := hih y cuts true pos L _ _ h cn sn k e5 hp X ρ hc hs'.1 (hk.ext hE') pc hpc
                rw [hs'.2] at go
                exact go H ls _ locs a1 a2 ⟨b0', rfl, c5⟩ a4
              · exact any e2
    · cases hx
  · cases hx
theorem ab_st39 (hih : ab_Ok Z U F) (hc : ab_Cx Z U y X) (hs : ab_Sat ρ G) (hk : ab_Hk Z U y X G.1 ρ k) (hd : decode (ab_zCB Z y) pc = .ok (ins, len)) (hr : ∃ i, rest = ab_dr i (ab_zP Z y).1) (hn : ∀ e r, rest = e :: r → e.1 = pc + len) (hE : ab_EL Z y pc 39 A x1 x2 Xs ins len)
    (hx : ab_i39 (ab_zBS Z) x1 S G h (fun S' h' => F y cuts false rest L S' G h' cn sn k) = true) : ab_Go Z U y X ρ G.1 pc S L h cn sn := by
  obtain ⟨rfl, hE⟩ := hE
  unfold ab_i39 at hx
  split at hx
  · rename_i v i c S'
    split at hx
    · rename_i tz n ct hcl
      obtain ⟨q1, q2⟩ := ab_an hx
      obtain ⟨q3, q4⟩ := ab_an q1
      obtain ⟨q5, q6⟩ := ab_an q3
      have et : x1 = tz := ab_beq q5
      subst et
      rcases ab_if q6 with ⟨_, q⟩ | ⟨q0, q6⟩
      · cases q
      rcases ab_if q6 with ⟨_, q⟩ | ⟨q7, q6⟩
      · cases q
      have hc0 : c ≠ 0 := Nat.ne_of_beq_eq_false q0
      have ht2 : x1 ≤ 2 := by
        rcases Nat.lt_or_ge x1 3 with g | g
        · omega
        · rw [Nat.ble_eq_true_of_le g] at q7; cases q7
      intro H ls st locs a1 a2 a3 a4
      obtain ⟨x, st1, rfl, b1, b5⟩ := a3.cons
      obtain ⟨x', st2, rfl, ⟨rfl, d3, d4⟩, c5⟩ := b5.cons
      obtain ⟨x2', st3, rfl, e1, e5⟩ := c5.cons
      have ex : x2' = .ref (ab_ad U.2.2.1 U.2.2.2 c) := e1
      subst ex
      obtain ⟨i1, i2⟩ := ab_in_ok hs d4 q4
      have hxt := ab_fit_ty hs ht2 b1 q6
      rcases ab_RC_row.mp (a1.2.2 _ _ hcl).2 with ⟨g, _⟩ | ⟨g1, g2, zf, g3, g4⟩
      · omega
      · refine ab_w39 hc.1 hc.2.1 hc.2.2.2.2.2.2.2.2.1.1 hE g3 g2 i1 i2 hxt hd (fun H1 f1 f2 f3 => ?_)
        refine ab_nx hih hc q2 hr hn hs hk (ab_Ext.rf _ _) H1 ls _ _ (a1.put hc.2.2.2.2.2.2.2.2.2.2.2.1 hcl (ab_RC_row.mpr (Or.inr ⟨g1, g2, _, f1, fun j hj => ?_⟩)) f2 f3) a2 e5 (a4.put f2 f3 (ab_ad_new hc0))
        exact ⟨ab_ty_upd hxt (g4 j hj).1, ab_aupd_ok hs d4 b1 i1 (g4 j hj).2⟩
    · cases hx
  · cases hx
theorem ab_assign (vm : Vm) (c : ClassId) : vm.assignable c c = true := by
  show Vm.assignableAux vm (255 + 1) c c = true
  rw [Vm.assignableAux]
  simp
theorem ab_st44 (hih : ab_Ok Z U F) (hc : ab_Cx Z U y X) (hs : ab_Sat ρ G) (hk : ab_Hk Z U y X G.1 ρ k) (hd : decode (ab_zCB Z y) pc = .ok (ins, len)) (hr : ∃ i, rest = ab_dr i (ab_zP Z y).1) (hn : ∀ e r, rest = e :: r → e.1 = pc + len) (hE : ab_EM Z y pc 44 A x1 x2 Xs ins len)
    (hx : ab_i44 (ab_zBS Z) S h (fun S' h' => F y cuts false rest L S' G h' cn sn k) = true) : ab_Go Z U y X ρ G.1 pc S L h cn sn := by
  obtain ⟨rfl, rfl⟩ := hE
  unfold ab_i44 at hx
  split at hx
  · rename_i v i c S'
    split at hx
    · rename_i tz n d lx tv nv cv hcl hcv
      obtain ⟨q1, q2⟩ := ab_an hx
      obtain ⟨q3, q4⟩ := ab_an q1
      obtain ⟨q5, q6⟩ := ab_an q3
      have et : tz = 4 := ab_beq q5
      subst et
      have ev : tv = 1 := ab_beq q6
      subst ev
      rcases ab_if q4 with ⟨_, q⟩ | ⟨q0, q7⟩
      · cases q
      have hc0 : c ≠ 0 := Nat.ne_of_beq_eq_false q0
      have hi := ab_ble q7
      intro H ls st locs a1 a2 a3 a4
      obtain ⟨x, st1, rfl, b1, b5⟩ := a3.cons
      obtain ⟨x', st2, rfl, ⟨rfl, d3, d4⟩, c5⟩ := b5.cons
      obtain ⟨x2', st3, rfl, e1, e5⟩ := c5.cons
      have ex : x = .ref (ab_ad U.2.2.1 U.2.2.2 v) := b1
      subst ex
      have ex : x2' = .ref (ab_ad U.2.2.1 U.2.2.2 c) := e1
      subst ex
      rcases ab_RC_row.mp (a1.2.2 _ _ hcl).2 with ⟨g, _⟩ | ⟨g1, g2, zf, g3, g4⟩
      · cases g
      rcases ab_RC_row.mp (a1.2.2 _ _ hcv).2 with ⟨g, _⟩ | ⟨k1, k2, zv, k3, k4⟩
      · cases g
      obtain ⟨u1, u2⟩ := ab_idx (z := Int.ofNat i) (n := n) (Int.natCast_nonneg i) (by have e9 : Int.ofNat i = (i : Int) := rfl; omega) g2
      have hK := hc.2.2.2.2.2.2.2.2.1.1
      obtain ⟨comp, cA, kA, o1, -, o2, o3, o4⟩ := ab_overA hc.2.2.2.2.2.2.2.2.1.2.2.1
      have eA : cA = U.2.1 4 := Option.some.inj (o4.symm.trans (hK.2 4 _ rfl).2)
      have eC : comp = U.2.1 1 := Option.some.inj (o1.symm.trans (hK.2 1 _ rfl).2)
      subst eA
      subst eC
      obtain ⟨-, kC, hkC, -⟩ := (hK.2 1 _ rfl).1 nv zv
      refine W.aast hc.1 hc.2.1 g3 (fun q h => by cases h) (fun h => by cases h) o2 o3 rfl hkC ⟨fun q => u2 (Or.inl q), by show _ < (arrV _ _ _).slots.size; rw [arrV_size]; exact Nat.not_le.mp fun q => u2 (Or.inr q)⟩ k3 (fun q h => by cases h) hkC (ab_assign _ _) rfl rfl hd fun H1 f1 f2 f3 => ?_
      rw [u1] at f1 ⊢
      refine ab_nx hih hc q2 hr hn hs hk (ab_Ext.rf _ _) H1 ls _ _ (a1.put hc.2.2.2.2.2.2.2.2.2.2.2.1 hcl (ab_RC_row.mpr (Or.inr ⟨g1, g2, _, by rw [f1, arrV_store], fun j hj => ⟨trivial, ?_⟩⟩)) f2 f3) a2 e5 (a4.put f2 f3 (ab_ad_new hc0))
      show ab_RV _ _ _ _ (ab_el d ((i, .inr (.inl v)) :: lx) j) (updV zf i _ j)
      unfold updV
      by_cases e : j = i
      · subst e
        rw [if_pos rfl, ab_el_self]
        exact rfl
      · rw [if_neg e, ab_el_ne (Ne.symm e)]
        exact (g4 j hj).2
    · cases hx
  · cases hx
theorem ab_st36 (hih : ab_Ok Z U F) (hc : ab_Cx Z U y X) (hs : ab_Sat ρ G) (hk : ab_Hk Z U y X G.1 ρ k) (hd : decode (ab_zCB Z y) pc = .ok (ins, len)) (hr : ∃ i, rest = ab_dr i (ab_zP Z y).1) (hn : ∀ e r, rest = e :: r → e.1 = pc + len) (hE : ab_EL Z y pc 36 A x1 x2 Xs ins len)
    (hx : ab_i34 4 S G h (fun S' h' n => bif ab_rm (ab_zP Z) y (cn + 1) (sn + n) then F y cuts false rest L S' G h' (cn + 1) (sn + n) k else false) = true) : ab_Go Z U y X ρ G.1 pc S L h cn sn := by
  obtain ⟨rfl, i, rfl, h1⟩ := hE
  unfold ab_i34 at hx
  split at hx
  · rename_i a0 S'
    split at hx
    · rename_i n hnm
      obtain ⟨q1, q2⟩ := ab_an hx
      obtain ⟨q3, q4⟩ := ab_an q2
      obtain ⟨r1, r2⟩ := ab_rm_ok hc q3
      have hn0 := ab_ble q1
      intro H ls st locs a1 a2 a3 a4
      obtain ⟨x, st1, rfl, ⟨rfl, b3, b4⟩, b5⟩ := a3.cons
      obtain ⟨n1, n2⟩ := ab_nm_ok hs b4
      rw [hnm] at n2
      have n3 : Int.ofNat n = ab_sv ρ a0 := n2
      rw [← n3] at b3 ⊢
      have et : (Int32.ofInt (Int.ofNat n)).toInt = n := ab_t32 b3
      have en : (Int32.ofInt (Int.ofNat n)).toNatClampNeg = n := by
        show (Int32.ofInt (Int.ofNat n)).toInt.toNat = n
        rw [et]; rfl
      have hK := hc.2.2.2.2.2.2.2.2.1.1
      refine W.anewA (t := .long) hc.1 hc.2.1 hc.2.2.2.1 (hc.2.2.2.2.2.2.2.1 _ h1) hc.2.2.2.2.2.2.2.2.1.2.2.1 rfl hd rfl (fun q => ?_) (by rw [en]; omega) r1 (by rw [en]; exact r2) (fun cA kA comp h3 _ _ _ => ?_)
      · rw [Int32.lt_iff_toInt_lt, et] at q
        have : (0 : Int32).toInt = 0 := rfl
        omega
      · rw [en, arrV_new]
        have eA : cA = U.2.1 4 := Option.some.inj (h3.symm.trans (hK.2 4 _ rfl).2)
        subst eA
        have g2 : (H.push (arrV (U.2.1 4) n fun _ => .null)).size = H.size + 1 := by simp
        have g3 : ∀ q : Nat, q < H.size → (H.push (arrV (U.2.1 4) n fun _ => .null))[q]? = H[q]? := fun q hq => by
          rw [Array.getElem?_push, if_neg (Nat.ne_of_lt hq)]
        have g1 : (H.push (arrV (U.2.1 4) n fun _ => .null))[H.size]? = some (arrV (U.2.1 4) n fun _ => .null) := by simp
        refine ab_nx hih hc q4 hr hn hs hk (ab_Ext.rf _ _) _ ls _ _ (a1.new hc.2.2.2.2.2.2.2.2.2.2.2.1 (ab_RC_row.mpr (Or.inr ⟨Nat.le_refl _, hn0, _, g1, fun j hj => ⟨trivial, ab_def_ok (b := U.2.2.1) (B := U.2.2.2) (n := G.1) (ρ := ρ) (t := 4) (ty := .array .long) rfl⟩⟩)) g2 g3) a2 ⟨(by show Value.ref H.size = .ref _; rw [a1.addr]), b5⟩ (ab_vS_new a4 g2 g3)
    · cases hx
  · cases hx
end ST4
end
section
/-! CALLS. -/
theorem ab_AOT.moved {ty : FieldType} {u U : State} (hvm : u.vm.Alike U.vm) (h : ab_AOT ty u) : ab_AOT ty U := by
  obtain ⟨comp, c, k, h1, h2, h3, h4, h5⟩ := ab_overA h
  obtain ⟨k', hk', he⟩ := hvm.2.2 _ _ h3
  have hi : (U.vm.classes.findIdx? fun (x : Class) => match x.kind with | .array component _ => component == comp | _ => false) = some c := by
    have e1 := va_idx_bare U.vm comp
    have e2 := va_idx_bare u.vm comp
    have eb : U.vm.bare = u.vm.bare := by first | exact hvm.bare_eq | exact hvm.bare_eq.symm
    rw [eb] at e1
    exact (e1.symm.trans e2).trans h2
  have hkind : k'.kind = .array comp (.array ty) := by rw [he]; exact h4
  have f1 : U.vm.findClass (FieldType.array ty).toString = some comp := by rw [hvm.findClass]; exact h1
  have f2 : U.vm.findClass ("[" ++ (FieldType.array ty).toString) = some c := by rw [hvm.findClass]; exact h5
  unfold ab_AOT Cond.before Cond.holds
  simp only [Cond.value]
  rw [f1, Option.bind_some]
  refine (congrArg (fun o : Option Nat => (o.bind (fun c => (U.vm.classes[c]?).map fun (k : Class) => match k.kind with | .array _ tz => decide (tz = FieldType.array ty) && decide (U.vm.findClass ("[" ++ (FieldType.array ty).toString) = some c) | _ => false) == some true)) hi).trans ?_
  simp [hk', hkind, f2]
theorem ab_KH.moved {Z : ab_ZT} {U : ab_UT} (hNW : ∀ w ∈ ab_zNW Z, ∀ s U : State, s.WarmedH U.vm → va_Nw w s → va_Nw w U) {s t : State} (hW : s.WarmedH t.vm) (h : ab_KH Z U s) (hq : ∀ a : Nat, a < s.heap.size → ¬ ab_nA U a → t.heap[a]? = s.heap[a]?) : ab_KH Z U t := by
  obtain ⟨h1, h2, h3, h4, h5, h6, h7⟩ := h
  exact ⟨va_K.moved hW.alike h1, fun w hw => hNW w hw s t hW (h2 w hw), ab_AOT.moved hW.alike h3, fun q hq => (h4 q hq).moved hW.alike, vx_Zq.moved hW.alike (h5.kept hq), vx_Zq.moved hW.alike (h6.kept hq), ab_AOT.moved hW.alike h7⟩
/-- a method's own word -/
def ab_cw (Z : ab_ZT) (y : Nat) : Cond := match ab_zHT Z y with
  | [] => Cond.code (ab_zY Z y) (ab_zCB Z y) (ab_zML Z y) (ab_zRT Z y)
  | q :: r => Cond.codeWith (ab_zY Z y) (ab_zCB Z y) (ab_zML Z y) (ab_zRT Z y) (q :: r)
/-- its handlers, by the tables -/
def ab_HK (Z : ab_ZT) (y : Nat) : Prop := ((ab_zP Z y).2.2.2 = [] → ab_zHT Z y = []) ∧ ∀ pc e g, ab_han pc e (ab_zP Z y).2.2.2 = some g →
  ∃ (pre : List ExceptionTableEntry) (x : ExceptionTableEntry) (suf : List ExceptionTableEntry) (name : String), tableOf (ab_zHT Z y) = pre ++ x :: suf ∧ (∀ z ∈ pre, covers z pc = false ∨ (z.catchType ≠ 0 ∧ ∃ nm : String, Cond.classLink (ab_zY Z y).cls z.catchType nm ∈ ab_zTW Z ∧ (ab_zEN Z e, nm) ∈ ab_zNX Z)) ∧
    covers x pc = true ∧ x.catchType ≠ 0 ∧ Cond.classLink (ab_zY Z y).cls x.catchType name ∈ ab_zTW Z ∧ Cond.castable (ab_zEN Z e) name ∈ ab_zNW Z ∧ ab_tg Z y g x.handlerPc
/-- a method that is called -/
def ab_MK (Z : ab_ZT) (y : Nat) : Prop := plainFor (ab_zY Z y) = true ∧ ((ab_zY Z y).cls ≠ "java/lang/invoke/MethodHandle" ∧ (ab_zY Z y).cls ≠ "java/lang/invoke/VarHandle") ∧ ab_cw Z y ∈ ab_zTW Z ∧ Cond.initialized (ab_zY Z y).cls ∈ ab_zTW Z ∧ ab_HK Z y ∧ ab_tg Z y 0 0
def ab_EC (Z : ab_ZT) (y : Nat) (ins : Instr) (len y2 n vc mx : Nat) : Prop := len = 3 ∧ ab_zFR Z y2 + 1 ≤ ab_zFR Z y ∧ 40 + (ab_zML Z y2 + 11) + ab_zLO Z y2 ≤ ab_zLO Z y ∧ mx = ab_zML Z y2 ∧ ab_MK Z y2 ∧
  ∃ i np, (parseMethodDescriptor (ab_zY Z y2).desc).map (fun d => d.parameters.length) = some np ∧
    ((ins = .invokestatic i ∧ Cond.static (ab_zY Z y2) ∈ ab_zTW Z ∧ n = np ∧ (Cond.methodLink (ab_zY Z y).cls i (ab_zY Z y2) ∈ ab_zTW Z ∨ (ab_zHT Z y2 = [] ∧ ∃ host, Cond.methodLinkNest (ab_zY Z y).cls i (ab_zY Z y2) host ∈ ab_zNW Z))) ∨
     (ab_zHT Z y2 = [] ∧ ins = .invokevirtual i ∧ Cond.instanceMethod (ab_zY Z y2) ∈ ab_zTW Z ∧ Cond.selects (ab_zY Z y2).cls (ab_zY Z y2) (ab_zY Z y2) ∈ ab_zTW Z ∧ n = np + 1 ∧ (∃ ci, vc = ci + 1 ∧ ab_CL (ab_zcl Z) (ab_zNF Z) (ab_zFT Z) (ab_zTW Z) ci (ab_zY Z y2).cls (ab_zCT Z ci).2) ∧ (Cond.methodLink (ab_zY Z y).cls i (ab_zY Z y2) ∈ ab_zTW Z ∨ ∃ host, Cond.methodLinkNest (ab_zY Z y).cls i (ab_zY Z y2) host ∈ ab_zNW Z)) ∨
     (ab_zHT Z y2 = [] ∧ (∃ ci, vc = ci + 1) ∧ ab_zRT Z y2 = none ∧ ins = .invokespecial i ∧ (ab_zY Z y2).name = "<init>" ∧ Cond.instanceMethod (ab_zY Z y2) ∈ ab_zTW Z ∧ n = np + 1 ∧ (Cond.methodLink (ab_zY Z y).cls i (ab_zY Z y2) ∈ ab_zTW Z ∨ ∃ host, Cond.methodLinkNest (ab_zY Z y).cls i (ab_zY Z y2) host ∈ ab_zNW Z)))
/-- what every step rests on -/
def ab_Gd (Z : ab_ZT) : Prop := (∀ w ∈ ab_zTW Z, (w.onTables && w.keeps) = true ∨ ∃ ty, w = .arrayClass ty) ∧ (∀ w ∈ ab_zNW Z, ∀ s U : State, s.WarmedH U.vm → va_Nw w s → va_Nw w U) ∧ (∀ w ∈ ab_zNW Z, w.onTables = true) ∧ ∀ c x, ab_zBS Z c = some x → ab_cC x = true
/-- the callee's room -/
def ab_rmy (Z : ab_ZT) (y : Nat) : Room := { frames := ab_zFR Z y, cells := (ab_zP Z y).2.1, slots := (ab_zP Z y).2.2.1, locals := ab_zLO Z y }
def ab_Pc (Z : ab_ZT) (U : ab_UT) (As : List Value) (n : Nat) (ρ : Nat → Int) (h : ab_H) : Array Value → State → Prop := fun a st => a = As.toArray ∧ ab_KH Z U st ∧ ab_rH Z U n ρ h st.heap
def ab_Qc (Z : ab_ZT) (U : ab_UT) (n : Nat) (ρ : Nat → Int) (kk : ab_K) : Array Value → State → Outcome → State → Prop := fun _ st o t => ∃ v, o = .returned v ∧ ∃ (a2 : Nat) (S2 : List ab_V) (L2 : ab_L) (G2 : ab_G) (h2 : ab_H) (cn2 sn2 : Nat) (ρ2 : Nat → Int), kk 0 a2 S2 L2 G2 h2 cn2 sn2 = true ∧ ab_Ext n ρ G2.1 ρ2 ∧ ab_Sat ρ2 G2 ∧ ab_rS U G2.1 ρ2 S2 v.toList ∧ ab_rH Z U G2.1 ρ2 h2 t.heap ∧ va_F (ab_nA U) st t
def ab_XC (Z : ab_ZT) (U : ab_UT) (n : Nat) (ρ : Nat → Int) (kk : ab_K) : String → State → State → Prop := fun E st t => ∃ (e2 : Nat) (S2 : List ab_V) (L2 : ab_L) (G2 : ab_G) (h2 : ab_H) (cn2 sn2 : Nat) (ρ2 : Nat → Int), E = ab_zEN Z e2 ∧ kk 1 e2 S2 L2 G2 h2 cn2 sn2 = true ∧ ab_Ext n ρ G2.1 ρ2 ∧ ab_Sat ρ2 G2 ∧ ab_rH Z U G2.1 ρ2 h2 t.heap ∧ va_F (ab_nA U) st t
theorem ab_args_R2 {b B n : Nat} {ρ : Nat → Int} : ∀ {as : List ab_V} {As : List Value} (i : Nat), ab_RS b B n ρ as As → ab_R2 b B n ρ (ab_args as i) (lv_args i As)
  | [], [], _, _ => trivial
  | v :: as, x :: As, i, h => by
    have hc := h.1.cat
    have e : (bif ab_wide v then i + 2 else i + 1) = (if x.category = 2 then i + 2 else i + 1) := by
      rw [hc]
      cases ab_wide v <;> rfl
    show ab_R2 b B n ρ ((i, v) :: ab_args as (bif ab_wide v then i + 2 else i + 1)) ((i, x) :: lv_args (if x.category = 2 then i + 2 else i + 1) As)
    rw [e]
    exact ⟨rfl, h.1, ab_args_R2 _ h.2⟩
  | [], _ :: _, _, h => h.elim
  | _ :: _, [], _, h => h.elim
theorem ab_wd_len {b B n : Nat} {ρ : Nat → Int} : ∀ {as : List ab_V} {As : List Value}, ab_RS b B n ρ as As → (lg_sl As).length = ab_wd as
  | [], [], _ => rfl
  | v :: as, x :: As, h => by
    have hc := h.1.cat
    have ih := ab_wd_len h.2
    show ((x :: As).flatMap fun v => if v.category = 2 then [Slot.val v, Slot.second] else [Slot.val v]).length = (bif ab_wide v then ab_wd as + 2 else ab_wd as + 1)
    rw [List.flatMap_cons, List.length_append, hc]
    have ih' : (As.flatMap fun v => if v.category = 2 then [Slot.val v, Slot.second] else [Slot.val v]).length = ab_wd as := ih
    rw [ih']
    cases ab_wide v
    · show 1 + _ = _ + 1
      omega
    · show 2 + _ = _ + 2
      omega
  | [], _ :: _, h => h.elim
  | _ :: _, [], h => h.elim
theorem ab_RS_rev {b B n : Nat} {ρ : Nat → Int} {S : List ab_V} {st : List Value} (h : ab_RS b B n ρ S st) : ab_RS b B n ρ S.reverse st.reverse := by
  induction S generalizing st with
  | nil => rw [h.nil]; exact trivial
  | cons v S ih =>
    obtain ⟨x, t, rfl, h1, h2⟩ := h.cons
    rw [List.reverse_cons, List.reverse_cons]
    exact (ih h2).app ⟨h1, trivial⟩
theorem ab_RS_split {b B n : Nat} {ρ : Nat → Int} : ∀ {S T : List ab_V} {st : List Value}, ab_RS b B n ρ (S ++ T) st → ∃ s t, st = s ++ t ∧ ab_RS b B n ρ S s ∧ ab_RS b B n ρ T t
  | [], T, st, h => ⟨[], st, rfl, trivial, h⟩
  | v :: S, T, st, h => by
    obtain ⟨x, t, rfl, h1, h2⟩ := ab_RS.cons (S := S ++ T) h
    obtain ⟨s, t', rfl, h3, h4⟩ := ab_RS_split h2
    exact ⟨x :: s, t', rfl, ⟨h1, h3⟩, h4⟩
theorem ab_rst_ok {n : Nat} {f : List ab_V → List ab_V → Bool} {S : List ab_V} (h : ab_rst S n f = true) : ∃ as S', S = as.reverse ++ S' ∧ as.length = n ∧ f as S' = true := by
  have go : ∀ (n : Nat) (a S : List ab_V), (Nat.rec (motive := fun _ => List ab_V → List ab_V → Bool) (fun a S => f a S) (fun _ r a S => List.casesOn S false (fun v T => r (v :: a) T)) n a S : Bool) = true → ∃ as S', S = as.reverse ++ S' ∧ as.length = n ∧ f (as ++ a) S' = true := by
    intro n
    induction n with
    | zero => intro a S h; exact ⟨[], S, rfl, rfl, h⟩
    | succ n ih =>
      intro a S h
      cases S with
      | nil => cases h
      | cons v T =>
        obtain ⟨as, S', e1, e2, e3⟩ := ih (v :: a) T h
        refine ⟨as ++ [v], S', ?_, by simp [e2], by rw [List.append_assoc]; exact e3⟩
        rw [List.reverse_append, e1]
        rfl
  obtain ⟨as, S', e1, e2, e3⟩ := go n [] S h
  rw [List.append_nil] at e3
  exact ⟨as, S', e1, e2, e3⟩
section CM
variable {Z : ab_ZT} {U : ab_UT} {F : ab_X} {l : Launch} {ρ : Nat → Int} {G : ab_G} {h : ab_H}
theorem ab_cws {y : Nat} {s : State} {args : Array Value} {p : Program} {e : Env} {m : MethodId} {below : List Frame} {meth : Method} {c : Code} {s₁ : State} {rm : Room} (B : BodyLoose p l (ab_zY Z y) (headSpec (ab_cw Z y :: ab_zTW Z) rm) (ab_zCB Z y) (ab_zML Z y) (ab_zRT Z y) e s m args below meth c s₁) : c.exceptionTable.toList = tableOf (ab_zHT Z y) := by
  have hw := atoms_spec (ws := ab_cw Z y :: ab_zTW Z) B.pre _ List.mem_cons_self
  unfold ab_cw at hw
  cases hh : ab_zHT Z y with
  | nil =>
    rw [hh] at hw
    obtain ⟨meth9, c9, h1, h2, -, -, -, -, h7, -⟩ := Cond.code_spec B.named hw
    cases Option.some.inj (h1.symm.trans B.method)
    cases Option.some.inj (h2.symm.trans (Stand.of_body B).code)
    rw [Array.isEmpty_iff.mp h7]
    rfl
  | cons q r =>
    rw [hh] at hw
    exact vx_table (x := ab_zY Z y) B hw
theorem ab_met (hGd : ab_Gd Z) (hih : ab_Ok Z U F) (hl : l.stackTraces = false) (hbB : U.2.2.1 < U.2.2.2) {y : Nat} (hM : ab_MK Z y) (hs : ab_Sat ρ G) {as : List ab_V} {As : List Value} (hAs : ab_rS U G.1 ρ as As) (hwd : ab_wd as ≤ ab_zML Z y) {kk : ab_K} (hkk : ∀ kd a S L G' h' cn sn, kk kd a S L G' h' cn sn = true → (kd = 0 ∨ kd = 1) ∧ cn ≤ (ab_zP Z y).2.1 ∧ sn ≤ (ab_zP Z y).2.2.1)
    (hF : F y [] true (ab_zP Z y).1 (ab_args as 0) [] G h 0 0 kk = true) : vx_Met l (ab_zY Z y) (ab_cw Z y :: ab_zTW Z) (ab_rmy Z y) (ab_Pc Z U As G.1 ρ h) (ab_Qc Z U G.1 ρ kk) (ab_XC Z U G.1 ρ kk) (ab_zP Z y).2.1 (ab_zP Z y).2.2.1 (ab_nA U) := by
  obtain ⟨m1, m2, m3, m4, m5, m6⟩ := hM
  have body : ∀ p e s m args below meth c s₁, BodyLoose p l (ab_zY Z y) (headSpec (ab_cw Z y :: ab_zTW Z) (ab_rmy Z y)) (ab_zCB Z y) (ab_zML Z y) (ab_zRT Z y) e s m args below meth c s₁ → c.maxLocals = ab_zML Z y → ab_Pc Z U As G.1 ρ h args s →
      W p l e (headSpec (ab_cw Z y :: ab_zTW Z) (ab_rmy Z y)).room s m args below meth c s.heap [] 0 0 (vx_MQ below (ab_Qc Z U G.1 ρ kk) (ab_XC Z U G.1 ρ kk) args s (ab_zP Z y).2.1 (ab_zP Z y).2.2.1 (ab_nA U)) (entryFrame m args (ab_zML Z y)) := by
    intro p e s m args below meth c s₁ B hml hP
    obtain ⟨rfl, hKH, hrH⟩ := hP
    have hws := atoms_spec (ws := ab_cw Z y :: ab_zTW Z) B.pre
    have hTW : ∀ w ∈ ab_zTW Z, w.before As.toArray s = true := fun w hw => hws w (List.mem_cons_of_mem _ hw)
    have htab := ab_cws B
    have hCx : ab_Cx Z U y (p, l, e, ab_rmy Z y, s, m, As.toArray, below, meth, c, vx_MQ below (ab_Qc Z U G.1 ρ kk) (ab_XC Z U G.1 ρ kk) As.toArray s (ab_zP Z y).2.1 (ab_zP Z y).2.2.1 (ab_nA U)) := by
      refine ⟨B.exec, B.bytes, hml, findClass_of_methodNamed B.named, (name_of_methodNamed B.named B.method).1, B.returns, B.notSynchronized, hTW, hKH, hl, ⟨rfl, rfl, rfl, rfl⟩, hbB, fun q x hx => ?_, fun pc e2 g hg => ?_⟩
      · have hx' : x ∈ c.exceptionTable.toList := hx
        rw [htab, m5.1 q] at hx'
        cases hx'
      · obtain ⟨pre, x, suf, name, p1, p2, p3, p4, p5, p6, p7⟩ := m5.2 pc e2 g hg
        refine ⟨pre, x, suf, name, htab.trans p1, fun z hz => ?_, p3, p4, hTW _ p5, va_Nw.use (hGd.2.2.1 _ p6) (hKH.2.1 _ p6), p7⟩
        rcases p2 z hz with q | ⟨q1, nm, q2, q3⟩
        · exact Or.inl q
        · exact Or.inr ⟨q1, nm, hTW _ q2, hKH.2.2.2.1 _ q3⟩
    have hHk : ab_Hk Z U y (p, l, e, ab_rmy Z y, s, m, As.toArray, below, meth, c, vx_MQ below (ab_Qc Z U G.1 ρ kk) (ab_XC Z U G.1 ρ kk) As.toArray s (ab_zP Z y).2.1 (ab_zP Z y).2.2.1 (ab_nA U)) G.1 ρ kk := by
      intro kd a S2 L2 G2 h2 cn2 sn2 ρ2 e1 e2 e3
      obtain ⟨kq, k1, k2⟩ := hkk _ _ _ _ _ _ _ _ e1
      rcases kq with rfl | rfl
      · intro ins pc H ls st locs hd hkr hH hS hV
        have hq : ∀ (v : Option Value), v.toList = st → ∀ t : State, t.heap = H → s.WarmedH t.vm → ab_Qc Z U G.1 ρ kk As.toArray s (.returned v) t := fun v hv t ht hW => ⟨v, rfl, a, S2, L2, G2, h2, cn2, sn2, ρ2, e1, e2, e3, by rw [hv]; exact hS, by rw [ht]; exact hH, hV.F ht⟩
        intro T hT Xs
        refine vx_ret (args := As.toArray) ?_ T hT (stand_widen Xs k1 k2)
        unfold ab_kr at hkr
        split at hkr
        · obtain ⟨r1, rfl⟩ := hkr
          exact W.vret B.exec B.bytes (B.returns.trans r1) (hq none rfl) hV.2.2 hd B.notSynchronized
        · rcases hkr with ⟨r1, v, rfl⟩ | ⟨r1, v, rfl, r2⟩
          · exact W.iret B.exec B.bytes (B.returns.trans r1) (hq (some (.int v)) rfl) hV.2.2 hd B.notSynchronized
          · exact W.zret B.exec B.bytes (B.returns.trans r1) r2 (hq (some (.int v)) rfl) hV.2.2 hd B.notSynchronized
        · obtain ⟨r1, v, rfl⟩ := hkr
          exact W.lret B.exec B.bytes (B.returns.trans r1) (hq (some (.long v)) rfl) hV.2.2 hd B.notSynchronized
        · obtain ⟨⟨rt, r1, r2⟩, v, rfl⟩ := hkr
          exact W.aret B.exec B.bytes (B.returns.trans r1) r2 (Or.inr ⟨v, rfl⟩) (hq (some (.ref v)) rfl) hV.2.2 hd B.notSynchronized
        · exact hkr.elim
      · intro hnil pc H ls st locs q ce hH hcell hv hcl hV
        refine vx_out (fun x hx => ?_) B.notSynchronized hcell hv hcl (fun t ht _ => ⟨a, S2, L2, G2, h2, cn2, sn2, ρ2, rfl, e1, e2, e3, by rw [ht]; exact hH, hV.F ht⟩) hV.2.2 k1 k2
        have hx' : x ∈ c.exceptionTable.toList := hx
        rw [htab, m5.1 hnil] at hx'
        cases hx'
    have go := hih y [] true (ab_zP Z y).1 (ab_args as 0) [] G h 0 0 kk hF ⟨0, rfl⟩ _ ρ hCx hs hHk 0 m6 s.heap ((lg_sl As ++ List.replicate (ab_zML Z y - (lg_sl As).length) Slot.unset).toArray) [] [] hrH ⟨_, lv_entry As (by rw [ab_wd_len hAs]; exact hwd), ab_args_R2 0 hAs⟩ trivial ⟨Nat.le_refl _, fun _ _ _ => rfl, fun q hq => nomatch hq⟩
    rw [lg_entry_eq]
    exact go
  refine MetFree.of_bodySF (code := ab_zCB Z y) (maxLocals := ab_zML Z y) (ret := ab_zRT Z y) m1 ?_ ?_
  · intro args s m h hn
    have hw := atoms_spec (ws := ab_cw Z y :: ab_zTW Z) h _ List.mem_cons_self
    unfold ab_cw at hw
    cases hh : ab_zHT Z y with
    | nil =>
      rw [hh] at hw
      obtain ⟨meth, c, h1, h2, h3, h4, h5, h6, -, -⟩ := Cond.code_spec hn hw
      exact ⟨meth, c, h1, h2, h3, h4, h5, h6⟩
    | cons q r =>
      rw [hh] at hw
      obtain ⟨m9, meth, c, hn9, h1, h2, h3, h4, -, h5, h6, -⟩ := Cond.codeWith_spec hw
      cases hn.symm.trans hn9
      exact ⟨meth, c, h1, h2, h3, h4, h5, h6⟩
  · intro p e s m args below meth c s₁ B hml hP _
    have hh0 : s₁.heap = s.heap := by rw [B.state]; rfl
    obtain ⟨t, a1, o, b1, b2, b3⟩ := body p e s m args below meth c s₁ B hml hP s₁ hh0 (Stand.of_body B)
    exact ⟨t, o, a1, b1, b2, b3⟩
end CM
end
section
/-! A CALL'S STEP. -/
section FN
variable {p : Program} {l : Launch} {e : Env} {R : Room} {s : State} {m : MethodId} {args : Array Value} {below : List Frame} {meth : Method} {c : Code} {H : Heap} {locs : List Loc} {cells slots : Nat}
theorem ab_fin {mc ms : Nat} {g : JFrame} {rest : List Value} {a : Array Value} {Qc : Array Value → State → Outcome → State → Prop} {XC : String → State → State → Prop} {free : Addr → Prop} {T : State} (hT : T.heap = H)
    (h : (∃ (v : Option Value) (vm₁ : Vm) (B : Pt), s.WarmedH vm₁ ∧ Stand p l e R s m args below meth c B.U B.locs B.cells B.slots ∧ PostOf Qc mc ms free ⟨T.setVm vm₁, locs, cells, slots⟩ a v B ∧
      ∀ target, Steps p.tables e below (B.U.setTop { g with pc := g.pc + 3, stack := v.toList ++ rest }) target → Steps p.tables e below (T.setTop g) target) ∨
    (∃ (q : Addr) (vm₁ : Vm) (B : Pt), s.WarmedH vm₁ ∧ Stand p l e R s m args below meth c B.U B.locs B.cells B.slots ∧ vx_Post XC mc ms free ⟨T.setVm vm₁, locs, cells, slots⟩ a q B ∧
      Steps p.tables e below (T.setTop g) ((B.U.setTop { g with stack := rest }).pushFrame (.throwing q)))) :
    (∃ (v : Option Value) (st₀ t T' : State) (L : List Loc), st₀.heap = H ∧ Stand p l e R s m args below meth c T' (locs ++ L) (cells + mc) (slots + ms) ∧ (∀ q ∈ L, free q.base) ∧ T'.heap = t.heap ∧ T'.vm = t.vm ∧ Qc a st₀ (.returned v) t ∧
      Goes p e below T g T' { g with pc := g.pc + 3, stack := v.toList ++ rest }) ∨
    (∃ (q : Addr) (st₀ t T' : State) (L : List Loc) (E : String) (ce : Cell), st₀.heap = H ∧ Stand p l e R s m args below meth c T' (locs ++ L) (cells + mc) (slots + ms) ∧ (∀ z ∈ L, free z.base) ∧ T'.heap = t.heap ∧ T'.vm = t.vm ∧ XC E st₀ t ∧ t.heap[q]? = some ce ∧ ce.vm = .none ∧ s.vm.findClass E = some ce.cls ∧
      Steps p.tables e below (T.setTop g) ((T'.setTop { g with stack := rest }).pushFrame (.throwing q))) := by
  rcases h with ⟨v, vm₁, ⟨U', l2, c2, s2⟩, hW₁, X', ⟨g', mk, t, L, e1, e2, hq, h1, hL, h2, h3⟩, st⟩ | ⟨q, vm₁, ⟨U', l2, c2, s2⟩, hW₁, X', ⟨g', mk, t, L, E, ce, e1, e2, hq, hce, hcv, hcl, h1, hL, h2, h3⟩, st⟩
  · dsimp only [Pt.U, Pt.locs, Pt.cells, Pt.slots] at X' e1 e2 h1 h2 h3 st
    subst h1; subst h2; subst h3
    exact Or.inl ⟨v, (T.setVm vm₁).calling g' mk a, t, U', L, hT, X', hL, e1, e2, hq, st⟩
  · dsimp only [Pt.U, Pt.locs, Pt.cells, Pt.slots] at X' e1 e2 h1 h2 h3 st hcl
    subst h1; subst h2; subst h3
    exact Or.inr ⟨q, (T.setVm vm₁).calling g' mk a, t, U', L, E, ce, hT, X', hL, e1, e2, hq, hce, hcv, vx_cls hW₁ hcl, st⟩
end FN
section C2
variable {Z : ab_ZT} {U : ab_UT} {y : Nat} {X : ab_XT} {pc : Nat} {ins : Instr} {len : Nat}
theorem ab_run40 (hGd : ab_Gd Z) (hc : ab_Cx Z U y X) {y2 n vc mx : Nat} (hEC : ab_EC Z y ins len y2 n vc mx) (hd : decode (ab_zCB Z y) pc = .ok (ins, len)) {Pc : Array Value → State → Prop} {Qc : Array Value → State → Outcome → State → Prop} {XC : String → State → State → Prop}
    (hM : vx_Met X.2.1 (ab_zY Z y2) (ab_cw Z y2 :: ab_zTW Z) (ab_rmy Z y2) Pc Qc XC (ab_zP Z y2).2.1 (ab_zP Z y2).2.2.1 (ab_nA U)) (hbl : FrameBlind Pc) {H : Heap} {locs : List Loc} {cn sn : Nat} {As rest : List Value} {ls : Array Slot} (hn : As.length = n)
    (hrc : ∀ ci, vc = ci + 1 → ∃ b As' cellB, As = Value.ref b :: As' ∧ H[b]? = some cellB ∧ cellB.vm = .none ∧ cellB.cls = U.1.1 ci) (hpc : ∀ t : State, t.heap = H → (ab_xs X).WarmedH t.vm → Pc As.toArray t) (hrm : cn + (ab_zP Z y2).2.1 ≤ (ab_xR X).cells ∧ sn + (ab_zP Z y2).2.2.1 ≤ (ab_xR X).slots) (hw : (rest.map fun v => v.category).sum ≤ 40) (hls : ls.size = ab_zML Z y) :
    vx_Run X.1 X.2.1 X.2.2.1 (ab_xR X) (ab_xs X) (ab_xm X) (ab_xA X) X.2.2.2.2.2.2.2.1 (ab_xM X) (ab_xc X) H locs cn sn (ab_zP Z y2).2.1 (ab_zP Z y2).2.2.1 (F0 (ab_xm X) pc ls (As.reverse ++ rest)) rest (Qc As.toArray) XC (ab_nA U) := by
  obtain ⟨rfl, f1, f2, -, ⟨m1, m2, m3, m4, m5, m6⟩, i, np, hnp, hkd⟩ := hEC
  obtain ⟨k1, k2, k3, k4, k5, k6, k7, k8, k9, k10, k11, k12, k13⟩ := hc
  have hlen : ∀ sig, parseMethodDescriptor (ab_zY Z y2).desc = some sig → np = sig.parameters.length := fun sig h => by
    rw [h] at hnp
    exact (Option.some.inj hnp).symm
  have hpay : ∀ w ∈ ab_cw Z y2 :: ab_zTW Z, ∀ (a' : Array Value) (t : State), (ab_xs X).WarmedH t.vm → w.before a' t = true := pay_in k8 (fun w hw => by
    rcases List.mem_cons.mp hw with rfl | hw
    · exact ⟨m3, hGd.1 _ m3⟩
    · exact ⟨hw, hGd.1 _ hw⟩)
  have hini : ∀ (a' : Array Value) (t : State), (ab_xs X).WarmedH t.vm → (Cond.initialized (ab_zY Z y2).cls).before a' t = true := fun a' t hW => hpay _ (List.mem_cons_of_mem _ m4) a' t hW
  have g1 : (ab_rmy Z y2).frames + 1 ≤ (ab_xR X).frames := by rw [k11.1]; exact f1
  have g2 : 40 + (ab_zML Z y2 + 11) + (ab_rmy Z y2).locals ≤ (ab_xR X).locals := by rw [k11.2.1]; exact f2
  have hcode := k8 _ m3
  have hback : vx_Back X.2.1 (ab_xR X) X.1 X.2.2.1 X.2.2.2.2.2.2.2.1 (ab_xs X) (ab_xA X) (ab_zY Z y2) 3 40 (PreOf (ab_xR X) (ab_zP Z y2).2.1 (ab_zP Z y2).2.2.1 Pc) (PostOf Qc (ab_zP Z y2).2.1 (ab_zP Z y2).2.2.1 (ab_nA U)) (vx_Post XC (ab_zP Z y2).2.1 (ab_zP Z y2).2.2.1 (ab_nA U)) := by
    cases hh : ab_zHT Z y2 with
    | nil => exact vx_back (bytes := ab_zCB Z y2) (maxL := ab_zML Z y2) (ret := ab_zRT Z y2) hM hbl rfl rfl g1 g2 hpay (by unfold ab_cw; rw [hh]; exact List.mem_cons_self) hini
    | cons q r => exact vx_backW (bytes := ab_zCB Z y2) (maxL := ab_zML Z y2) (ret := ab_zRT Z y2) (hh := q :: r) hM hbl rfl rfl g1 g2 hpay (by unfold ab_cw; rw [hh]; exact List.mem_cons_self) hini
  have hsz : (F0 (ab_xm X) pc ls (As.reverse ++ rest)).locals.size = (ab_xc X).maxLocals := by rw [k3]; exact hls
  have hw0 : 2 * (F0 (ab_xm X) pc ls (As.reverse ++ rest)).monitorRoom + (rest.map fun v => v.category).sum ≤ 40 := by show 2 * 0 + _ ≤ 40; omega
  have hpre : ∀ {T : State}, T.heap = H → ∀ vm₁, (ab_xs X).WarmedH vm₁ → PreOf (ab_xR X) (ab_zP Z y2).2.1 (ab_zP Z y2).2.2.1 Pc ⟨T.setVm vm₁, locs, cn, sn⟩ As.toArray := fun {T} hT vm₁ hW => ⟨hrm.1, hrm.2, hpc (T.setVm vm₁) hT hW⟩
  intro T hT Xs
  refine ab_fin hT ?_
  rcases hkd with ⟨rfl, w1, rfl, hl⟩ | ⟨hh, rfl, w1, w2, rfl, ⟨ci, v1, v2⟩, hl⟩ | ⟨hh, ⟨ci, v1⟩, hrt, rfl, hnm, w1, rfl, hl⟩
  · have hcat : (Cond.static (ab_zY Z y2)).before (ab_xA X) (ab_xs X) = true := k8 _ w1
    have hdg : decode (ab_xc X).code pc = .ok (.invokestatic i, 3) := by rw [k2]; exact hd
    have hii := hini (ab_xA X) (ab_xs X) (State.WarmedH.refl _)
    unfold ab_cw at hcode
    cases hh : ab_zHT Z y2 with
    | nil =>
      rw [hh] at hcode
      rcases hl with hl | ⟨-, host, hl⟩
      · exact vx_callS Xs k1 k4 (k8 _ hl) hcat hii hcode m2 hback (g := F0 (ab_xm X) pc ls (As.reverse ++ rest)) rfl hsz (argsL := As) (fun sig h => hn.trans (hlen sig h)) rfl hw0 hdg (hpre hT)
      · exact vx_callSN Xs k1 k4 (va_Nw.use (hGd.2.2.1 _ hl) (k9.2.1 _ hl)) hcat hii hcode m2 hback (g := F0 (ab_xm X) pc ls (As.reverse ++ rest)) rfl hsz (argsL := As) (fun sig h => hn.trans (hlen sig h)) rfl hw0 hdg (hpre hT)
    | cons q r =>
      rw [hh] at hcode
      rcases hl with hl | ⟨q9, -⟩
      · exact vx_callSX (hh := q :: r) Xs k1 k4 (k8 _ hl) hcat hii hcode m2 hback (g := F0 (ab_xm X) pc ls (As.reverse ++ rest)) rfl hsz (argsL := As) (fun sig h => hn.trans (hlen sig h)) rfl hw0 hdg (hpre hT)
      · rw [hh] at q9; cases q9
  · obtain ⟨b, As', cellB, rfl, c1, c2, c3⟩ := hrc ci v1
    have hcode' : (Cond.code (ab_zY Z y2) (ab_zCB Z y2) (ab_zML Z y2) (ab_zRT Z y2)).before (ab_xA X) (ab_xs X) = true := by
      unfold ab_cw at hcode
      rw [hh] at hcode
      exact hcode
    have hdg : decode (ab_xc X).code pc = .ok (.invokevirtual i, 3) := by rw [k2]; exact hd
    have hcl : (ab_xs X).vm.findClass (ab_zY Z y2).cls = some cellB.cls := by rw [c3]; exact (k9.1.1 ci _ v2.1).2.1
    have hst : (F0 (ab_xm X) pc ls ((Value.ref b :: As').reverse ++ rest)).stack = As'.reverse ++ .ref b :: rest := by
      show (Value.ref b :: As').reverse ++ rest = _
      rw [List.reverse_cons, List.append_assoc]
      rfl
    have hn' : As'.length = np := by simpa using hn
    rcases hl with hl | ⟨host, hl⟩
    · exact vx_callV Xs k1 k4 (k8 _ hl) (k8 _ w1) (k8 _ w2) hcode' m2 hback (b := b) (by rw [hT]; exact c1) (by rw [c2]; rfl) hcl (g := F0 (ab_xm X) pc ls ((Value.ref b :: As').reverse ++ rest)) rfl hsz (argsL := As') (fun sig h => hn'.trans (hlen sig h)) hst hw0 hdg (hpre hT)
    · exact vx_callVN Xs k1 k4 (va_Nw.use (hGd.2.2.1 _ hl) (k9.2.1 _ hl)) (k8 _ w1) (k8 _ w2) hcode' m2 hback (b := b) (by rw [hT]; exact c1) (by rw [c2]; rfl) hcl (g := F0 (ab_xm X) pc ls ((Value.ref b :: As').reverse ++ rest)) rfl hsz (argsL := As') (fun sig h => hn'.trans (hlen sig h)) hst hw0 hdg (hpre hT)
  · obtain ⟨b, As', cellB, rfl, c1, c2, c3⟩ := hrc ci v1
    have hcode' : (Cond.code (ab_zY Z y2) (ab_zCB Z y2) (ab_zML Z y2) none).before (ab_xA X) (ab_xs X) = true := by
      unfold ab_cw at hcode
      rw [hh, hrt] at hcode
      exact hcode
    have hdg : decode (ab_xc X).code pc = .ok (.invokespecial i, 3) := by rw [k2]; exact hd
    have hst : (F0 (ab_xm X) pc ls ((Value.ref b :: As').reverse ++ rest)).stack = As'.reverse ++ .ref b :: rest := by
      show (Value.ref b :: As').reverse ++ rest = _
      rw [List.reverse_cons, List.append_assoc]
      rfl
    have hn' : As'.length = np := by simpa using hn
    rcases hl with hl | ⟨host, hl⟩
    · exact vx_callI Xs k1 k4 hnm (k8 _ hl) (k8 _ w1) hcode' m2 hback (g := F0 (ab_xm X) pc ls ((Value.ref b :: As').reverse ++ rest)) rfl hsz (a := b) (argsL := As') (fun sig h => hn'.trans (hlen sig h)) hst hw0 hdg (hpre hT)
    · exact vx_callIN Xs k1 k4 hnm (va_Nw.use (hGd.2.2.1 _ hl) (k9.2.1 _ hl)) (k8 _ w1) hcode' m2 hback (g := F0 (ab_xm X) pc ls ((Value.ref b :: As').reverse ++ rest)) rfl hsz (a := b) (argsL := As') (fun sig h => hn'.trans (hlen sig h)) hst hw0 hdg (hpre hT)
end C2
theorem ab_vS_call {A : Nat → Prop} {H0 : Heap} {st t : State} {locs L : List Loc} (h : va_S A H0 st.heap locs) (hF : va_F A st t) (hL : ∀ q ∈ L, A q.base) : va_S A H0 t.heap (locs ++ L) :=
  ⟨Nat.le_trans h.1 hF.1, fun q h1 h2 => (hF.2 q (Nat.lt_of_lt_of_le h1 h.1) h2).trans (h.2.1 q h1 h2), fun q hq => by
    rcases List.mem_append.mp hq with h1 | h1
    · exact h.2.2 q h1
    · exact hL q h1⟩
section C3
variable {Z : ab_ZT} {U : ab_UT} {F : ab_X} {y : Nat} {X : ab_XT} {ρ : Nat → Int} {cuts : List Nat} {pc : Nat} {A : Int} {x1 x2 : Nat} {Xs : List Nat} {pos rest : List ab_E} {L : ab_L} {S : List ab_V} {G : ab_G} {h : ab_H} {cn sn : Nat} {k : ab_K} {ins : Instr} {len : Nat}
theorem ab_st40 (hGd : ab_Gd Z) (hih : ab_Ok Z U F) (hc : ab_Cx Z U y X) (hs : ab_Sat ρ G) (hk : ab_Hk Z U y X G.1 ρ k) (hd : decode (ab_zCB Z y) pc = .ok (ins, len)) (hr : ∃ i, rest = ab_dr i (ab_zP Z y).1) (hn : ∀ e r, rest = e :: r → e.1 = pc + len) {y2 n vc mx : Nat} (hE : ab_EC Z y ins len y2 n vc mx)
    (hx : ab_call (ab_zBS Z) (ab_zP Z) F y cuts pc y2 n vc mx rest L S G h cn sn k = true) : ab_Go Z U y X ρ G.1 pc S L h cn sn := by
  have hlen3 : len = 3 := hE.1
  subst hlen3
  unfold ab_call at hx
  obtain ⟨as, S', rfl, hasn, hx⟩ := ab_rst_ok hx
  obtain ⟨q1, q2⟩ := ab_an hx
  obtain ⟨q3, q4⟩ := ab_an q1
  obtain ⟨q5, q6⟩ := ab_an q3
  obtain ⟨q7, q8⟩ := ab_an q5
  have hmx : mx = ab_zML Z y2 := hE.2.2.2.1
  subst hmx
  intro H ls st locs a1 a2 a3 a4
  obtain ⟨sA, st', rfl, b1, b2⟩ := ab_RS_split a3
  have hAs : ab_rS U G.1 ρ as sA.reverse := by
    have := ab_RS_rev b1
    rw [List.reverse_reverse] at this
    exact this
  have eAs : sA ++ st' = sA.reverse.reverse ++ st' := by rw [List.reverse_reverse]
  have hwords := b2.words
  have hq7 := ab_ble q7
  obtain ⟨lv, hlv, hlv2⟩ := a2
  have a2 : ab_rL U G.1 ρ (ab_zML Z y) L ls := ⟨lv, hlv, hlv2⟩
  have hMet := ab_met hGd hih hc.2.2.2.2.2.2.2.2.2.1 hc.2.2.2.2.2.2.2.2.2.2.2.1 hE.2.2.2.2.1 hs hAs (ab_ble q8) (kk := _) (fun kd e S2 L2 G2 h2 cn2 sn2 hkk => by
    obtain ⟨r1, r2⟩ := ab_an hkk
    obtain ⟨r3, r4⟩ := ab_an r1
    refine ⟨?_, ab_ble r3, ab_ble r4⟩
    rcases ab_if r2 with ⟨r5, -⟩ | ⟨-, r6⟩
    · exact Or.inl (ab_beq r5)
    · exact Or.inr (ab_beq (ab_an r6).1)) q2
  have hrun := ab_run40 hGd hc hE hd hMet (fun a t g mk hP => ⟨hP.1, ab_KH.moved (t := t.calling g mk a) hGd.2.1 (State.WarmedH.refl t) hP.2.1 (fun _ _ _ => rfl), hP.2.2⟩) (H := H) (locs := locs) (cn := cn) (sn := sn) (As := sA.reverse) (rest := st') (ls := ls) (by rw [hAs.len]; exact hasn) (fun ci hvc => by
      subst hvc
      unfold ab_rcv at q6
      rcases ab_if q6 with ⟨z1, -⟩ | ⟨-, z2⟩
      · cases z1
      · split at z2
        · rename_i c as' hq9
          split at z2
          · rename_i cj fs hcl
            have ej : cj = ci := Nat.succ.inj (ab_beq z2)
            subst ej
            obtain ⟨x, t, e1, e2, e3⟩ := ab_RS.cons hAs
            obtain ⟨V, ce, o1, o2, o3, -⟩ := (a1.2.2 _ _ hcl).2
            have ex : x = .ref (ab_ad U.2.2.1 U.2.2.2 c) := e2
            exact ⟨_, t, ce, by rw [e1, ex], o1, o3, o2⟩
          · cases z2
        · cases z2) (fun t ht hW => ⟨rfl, hc.2.2.2.2.2.2.2.2.1.moved hGd.2.1 hW (fun q hq hA => by rw [ht]; exact a4.2.1 q hq hA), by rw [ht]; exact a1⟩) (ab_rm_ok hc q4) (by omega) hlv.1
  rw [eAs]
  intro T hT XT
  rcases hrun T hT XT with ⟨v, st0, t, T', L9, h0, X', hL, e1, e2, ⟨v2, ev, a5, S2, L2, G2, h2, cn2, sn2, ρ2, hkk, hE2, hs2, hS2, hH2, hF⟩, go⟩ | ⟨q, st0, t, T', L9, E, ce, h0, X', hL, e1, e2, ⟨e5, S2, L2, G2, h2, cn2, sn2, ρ2, rfl, hkk, hE2, hs2, hH2, hF⟩, hcell, hcv, hcl, go⟩
  · cases ev
    obtain ⟨r1, r2⟩ := ab_an hkk
    subst h0
    have nx := ab_nx hih hc r2 hr hn hs2 hk hE2 t.heap ls (v.toList ++ st') (locs ++ L9) hH2 (a2.ext hE2) (hS2.app (b2.ext hE2)) (ab_vS_call a4 hF hL)
    obtain ⟨t9, z1, z2⟩ := nx T' e1 X'
    exact ⟨t9, go t9 z1, z2⟩
  · obtain ⟨r1, r2⟩ := ab_an hkk
    have r3 : (match (ab_zP Z y).2.2.2 with
          | [] => k 1 e5 [] L G2 h2 (cn + (ab_zP Z y2).2.1) (sn + (ab_zP Z y2).2.2.1)
          | _ :: _ => match ab_han pc e5 (ab_zP Z y).2.2.2 with
            | some g => F y cuts false (ab_dr g (ab_zP Z y).1) L [.inr (.inr 2)] G2 h2 (cn + (ab_zP Z y2).2.1) (sn + (ab_zP Z y2).2.2.1) k
            | none => false) = true := r2
    subst h0
    have hvS := ab_vS_call a4 hF hL
    have thr : ab_WX X t.heap (locs ++ L9) (cn + (ab_zP Z y2).2.1) (sn + (ab_zP Z y2).2.2.1) (F0 (ab_xm X) pc ls st') q := by
      split at r3
      · rename_i hnil
        exact hk 1 e5 [] L G2 h2 _ _ ρ2 r3 hE2 hs2 hnil pc t.heap ls st' (locs ++ L9) q ce hH2 hcell hcv hcl hvS
      · split at r3
        · rename_i g hg
          obtain ⟨pre, x, suf, name, p1, p2, p3, p4, p5, p6, p7⟩ := hc.2.2.2.2.2.2.2.2.2.2.2.2.2 pc e5 g hg
          refine vx_catch hc.2.2.2.1 pre x suf p1 p2 p3 p4 p5 p6 hcell hcv hcl ?_
          exact ab_jp hih hc r3 p7 hs2 hk hE2 t.heap ls [.ref q] (locs ++ L9) hH2 (a2.ext hE2) ⟨Or.inr (Or.inr (Or.inl ⟨rfl, _, rfl⟩)), trivial⟩ hvS
        · cases r3
    obtain ⟨t9, z1, z2⟩ := thr T' e1 X'
    exact ⟨t9, go.trans z1, z2⟩
end C3
end
section
/-! A COPY OF A RUN from a row to another one, told of the whole heap (after va_copyi of the kit). -/
section CP
variable {p : Program} {l : Launch} {e : Env} {R : Room} {s : State} {m : MethodId} {args : Array Value} {below : List Frame} {meth : Method} {c : Code} {H : Heap} {locs : List Loc} {cells slots : Nat} {Q : State → Prop}
theorem ab_i32n {z : Int} (hz : ab_R 0 z) (h0 : 0 ≤ z) : ¬ Int32.ofInt z < 0 ∧ (Int32.ofInt z).toNatClampNeg = z.toNat := by
  have et := ab_t32 hz
  refine ⟨fun q => ?_, ?_⟩
  · rw [Int32.lt_iff_toInt_lt, et] at q
    have : (0 : Int32).toInt = 0 := rfl
    omega
  · show (Int32.ofInt z).toInt.toNat = z.toNat
    rw [et]
theorem ab_copy {cc : ByteArray} {pc : Nat} {ls : Array Slot} {rest : List Value} {D : va_G} {cl : List vw_C} {dA : Nat → ClassId} (hexec : p.tables.exec = Jvm.exec) (hb : c.code = cc) (hml : ls.size = c.maxLocals) {own : String} {index : Nat} (hown : s.vm.findClass own = some m.cls)
    (hlink : (Cond.methodLink own index arraycopyName).before args s = true) (hnat : (Cond.native arraycopyName).before args s = true) (hstat : (Cond.static arraycopyName).before args s = true) (hini : (Cond.initialized "java/lang/System").before args s = true)
    (hK : va_K D cl (ab_tys dA) s) {t : Nat} (ht : t ≤ 1) {a0 a n0 n1 : Nat} {f g : Nat → Value} (hc0 : H[a0]? = some (arrV (dA t) n0 f)) (hc1 : H[a]? = some (arrV (dA t) n1 g)) (hf : ∀ j, j < n0 → ab_ty t (f j))
    {zs zd zn : Int} (rs : ab_R 0 zs) (rd : ab_R 0 zd) (rn : ab_R 0 zn) (h1 : 0 ≤ zs) (h2 : 0 ≤ zd) (h3 : 0 ≤ zn) (h4 : zs + zn ≤ n0) (h5 : zd + zn ≤ n1)
    (hframes : 1 ≤ R.frames) (hlocals : (rest.map fun v => v.category).sum + (nativeFrameWords "java/lang/System" "arraycopy" 5 + 11) ≤ R.locals) (hdg : decode cc pc = .ok (.invokestatic index, 3))
    (kk : ∀ (H1 : Heap) (L : List Loc), H1[a]? = some (arrV (dA t) n1 (va_cpy f g zs.toNat zd.toNat zn.toNat)) → H1.size = H.size → (∀ q : Nat, q ≠ a → H1[q]? = H[q]?) → (∀ z ∈ L, z.base = a) → W p l e R s m args below meth c H1 (locs ++ L) cells slots Q (F0 m (pc + 3) ls rest)) :
    W p l e R s m args below meth c H locs cells slots Q (F0 m pc ls (.int (Int32.ofInt zn) :: .int (Int32.ofInt zd) :: .ref a :: .int (Int32.ofInt zs) :: .ref a0 :: rest)) := by
  obtain ⟨s1, s2⟩ := ab_i32n rs h1
  obtain ⟨d1, d2⟩ := ab_i32n rd h2
  obtain ⟨n3, n2⟩ := ab_i32n rn h3
  have hprim : refKind (ab_et t) = false := by
    rcases (show t = 0 ∨ t = 1 by omega) with rfl | rfl <;> rfl
  intro T hT X
  obtain ⟨-, k0, hk0, cm0, hkk0⟩ := (hK.2 t _ (ab_tys_at dA (by omega))).1 n0 f
  obtain ⟨-, k1, hk1, cm1, hkk1⟩ := (hK.2 t _ (ab_tys_at dA (by omega))).1 n1 g
  obtain ⟨vm', X', step⟩ := X.arraycopy hexec hown hlink hnat hstat hini (src := a0) (dst := a) (cs := arrV (dA t) n0 f) (cd := arrV (dA t) n1 g) (srcPos := Int32.ofInt zs) (destPos := Int32.ofInt zd) (n := Int32.ofInt zn) (by rw [hT]; exact hc0) (by rw [hT]; exact hc1)
    (fun _ h => by cases h) (fun _ h => by cases h) (fun h => by cases h) (fun h => by cases h) hk0 hk1 hkk0 hkk1 (by simp [hprim]) s1 d1 n3
    (by rw [ab_t32 rs, ab_t32 rn, arrV_size]; omega)
    (by rw [ab_t32 rd, ab_t32 rn, arrV_size]; omega)
    (fun vm₁ _ i hi => by
      rw [n2] at hi
      have e : (arrV (dA t) n0 f).slots.getD ((Int32.ofInt zs).toNatClampNeg + i) .null = f (zs.toNat + i) := by
        rw [s2, Array.getD_eq_getD_getElem?, arrV_read _ _ (by omega)]
        rfl
      have hv := hf (zs.toNat + i) (by omega)
      rw [e]
      generalize f (zs.toNat + i) = x at hv ⊢
      rcases (show t = 0 ∨ t = 1 by omega) with rfl | rfl
      · obtain ⟨v, rfl⟩ := hv
        exact ⟨rfl, trivial⟩
      · obtain ⟨v, rfl⟩ := hv
        exact ⟨rfl, trivial⟩)
    (g := F0 m pc ls (.int (Int32.ofInt zn) :: .int (Int32.ofInt zd) :: .ref a :: .int (Int32.ofInt zs) :: .ref a0 :: rest)) rfl hml (rest := rest) rfl (by rw [hb]; exact hdg) hframes (by show 2 * 0 + _ + _ ≤ _; omega)
  have e1 : copied (arrV (dA t) n0 f) (arrV (dA t) n1 g) (Int32.ofInt zs) (Int32.ofInt zd) (Int32.ofInt zn) = arrV (dA t) n1 (va_cpy f g (Int32.ofInt zs).toNatClampNeg (Int32.ofInt zd).toNatClampNeg (Int32.ofInt zn).toNatClampNeg) := va_copied (fun z => z) (dA t) (dA t) f g (by rw [s2, n2]; omega)
  rw [s2, d2, n2] at e1
  rw [e1] at X' step
  have hl : a < H.size := (Array.getElem?_eq_some_iff.mp hc1).1
  generalize hC : arrV (dA t) n1 (va_cpy f g zs.toNat zd.toNat zn.toNat) = C at X' step kk
  have hheap : ((T.setVm vm').setCell a C).heap = H.setIfInBounds a C := by rw [← hT]; rfl
  obtain ⟨t9, a9, b9⟩ := kk (H.setIfInBounds a C) _ (by simp [Array.getElem?_setIfInBounds, hl]) (by simp) (fun q hq => by simp [Array.getElem?_setIfInBounds, Ne.symm hq]) (fun z hz => by
      obtain ⟨w, -, hw⟩ := List.mem_map.mp hz
      rw [← hw]) _ hheap X'
  exact ⟨t9, step t9 a9, b9⟩
end CP
end
section
/-! A ROW'S FILLING: the JDK's own method, walked. -/
def ab_fillN (t : Nat) : MethodName := match t with
  | 0 => ⟨"java/util/Arrays", "fill", "([II)V"⟩
  | _ => ⟨"java/util/Arrays", "fill", "([JJ)V"⟩
def ab_fillB (t : Nat) : ByteArray := match t with
  | 0 => prog_36_method_103_code
  | _ => prog_36_method_101_code
def ab_fillL (t : Nat) : Nat := match t with
  | 0 => 4
  | _ => 5
theorem abf0_0 : decode prog_36_method_103_code 0 = .ok (.iconst 0, 1) := by decide +kernel
theorem abf0_1 : decode prog_36_method_103_code 1 = .ok (.istore_n 2, 1) := by decide +kernel
theorem abf0_2 : decode prog_36_method_103_code 2 = .ok (.aload_n 0, 1) := by decide +kernel
theorem abf0_3 : decode prog_36_method_103_code 3 = .ok (.arraylength, 1) := by decide +kernel
theorem abf0_4 : decode prog_36_method_103_code 4 = .ok (.istore_n 3, 1) := by decide +kernel
theorem abf0_5 : decode prog_36_method_103_code 5 = .ok (.iload_n 2, 1) := by decide +kernel
theorem abf0_6 : decode prog_36_method_103_code 6 = .ok (.iload_n 3, 1) := by decide +kernel
theorem abf0_7 : decode prog_36_method_103_code 7 = .ok (.if_icmp .ge 13, 3) := by decide +kernel
theorem abf0_10 : decode prog_36_method_103_code 10 = .ok (.aload_n 0, 1) := by decide +kernel
theorem abf0_11 : decode prog_36_method_103_code 11 = .ok (.iload_n 2, 1) := by decide +kernel
theorem abf0_12 : decode prog_36_method_103_code 12 = .ok (.iload_n 1, 1) := by decide +kernel
theorem abf0_13 : decode prog_36_method_103_code 13 = .ok (.iastore, 1) := by decide +kernel
theorem abf0_14 : decode prog_36_method_103_code 14 = .ok (.iinc 2 1, 3) := by decide +kernel
theorem abf0_17 : decode prog_36_method_103_code 17 = .ok (.goto (-12), 3) := by decide +kernel
theorem abf0_20 : decode prog_36_method_103_code 20 = .ok (.return_, 1) := by decide +kernel
theorem abf1_0 : decode prog_36_method_101_code 0 = .ok (.iconst 0, 1) := by decide +kernel
theorem abf1_1 : decode prog_36_method_101_code 1 = .ok (.istore_n 3, 1) := by decide +kernel
theorem abf1_2 : decode prog_36_method_101_code 2 = .ok (.aload_n 0, 1) := by decide +kernel
theorem abf1_3 : decode prog_36_method_101_code 3 = .ok (.arraylength, 1) := by decide +kernel
theorem abf1_4 : decode prog_36_method_101_code 4 = .ok (.istore 4, 2) := by decide +kernel
theorem abf1_6 : decode prog_36_method_101_code 6 = .ok (.iload_n 3, 1) := by decide +kernel
theorem abf1_7 : decode prog_36_method_101_code 7 = .ok (.iload 4, 2) := by decide +kernel
theorem abf1_9 : decode prog_36_method_101_code 9 = .ok (.if_icmp .ge 13, 3) := by decide +kernel
theorem abf1_12 : decode prog_36_method_101_code 12 = .ok (.aload_n 0, 1) := by decide +kernel
theorem abf1_13 : decode prog_36_method_101_code 13 = .ok (.iload_n 3, 1) := by decide +kernel
theorem abf1_14 : decode prog_36_method_101_code 14 = .ok (.lload_n 1, 1) := by decide +kernel
theorem abf1_15 : decode prog_36_method_101_code 15 = .ok (.lastore, 1) := by decide +kernel
theorem abf1_16 : decode prog_36_method_101_code 16 = .ok (.iinc 3 1, 3) := by decide +kernel
theorem abf1_19 : decode prog_36_method_101_code 19 = .ok (.goto (-13), 3) := by decide +kernel
theorem abf1_22 : decode prog_36_method_101_code 22 = .ok (.return_, 1) := by decide +kernel
theorem ab_Rn {n : Nat} (h : n ≤ 1000000) : ab_R 0 (n : Int) := ⟨by rw [ab_lo0]; omega, by rw [ab_hi0]; omega⟩
theorem ab_i32le {i n : Nat} (hi : i ≤ 1000000) (hn : n ≤ 1000000) : (Int32.ofInt (n : Int) ≤ Int32.ofInt (i : Int)) ↔ n ≤ i := by
  rw [Int32.le_iff_toInt_le, ab_t32 (ab_Rn hi), ab_t32 (ab_Rn hn)]
  omega
theorem ab_i32s {i : Nat} (hi : i + 1 ≤ 1000000) : Int32.ofInt (i : Int) + Int32.ofInt 1 = Int32.ofInt ((i + 1 : Nat) : Int) := by
  rw [← Int32.toInt_inj, ab_t32 (ab_Rn hi), Int32.toInt_add, ab_t32 (ab_Rn (Nat.le_of_succ_le hi))]
  have e1 : (Int32.ofInt 1).toInt = 1 := rfl
  rw [e1, Int.bmod_def]
  omega
section FL
variable {p : Program} {l : Launch} {e : Env} {R : Room} {s : State} {m : MethodId} {args : Array Value} {below : List Frame} {meth : Method} {c : Code} {Q : State → Prop} {cells slots : Nat}
variable {D : va_G} {cl : List vw_C} {dA : Nat → ClassId}
theorem ab_fl0 (hx : p.tables.exec = Jvm.exec) (hb : c.code = prog_36_method_103_code) (hK : va_K D cl (ab_tys dA) s) {a N : Nat} {x : Int32} (hN : N ≤ 1000000) {H0 : Heap}
    (kk : ∀ (H : Heap) (ls : Array Slot) (locs : List Loc) (z : Nat → Value), H[a]? = some (arrV (dA 0) N z) → (∀ j, j < N → z j = .int x) → H.size = H0.size → (∀ q : Nat, q ≠ a → H[q]? = H0[q]?) → (∀ q ∈ locs, q.base = a) → W p l e R s m args below meth c H locs cells slots Q (F0 m 20 ls [])) :
    ∀ (d i : Nat), i + d = N → ∀ (H : Heap) (ls : Array Slot) (locs : List Loc) (z : Nat → Value), H[a]? = some (arrV (dA 0) N z) → (∀ j, j < i → z j = .int x) → H.size = H0.size → (∀ q : Nat, q ≠ a → H[q]? = H0[q]?) → (∀ q ∈ locs, q.base = a) →
      lv_has ls 4 [(2, .int (Int32.ofInt (i : Int))), (3, .int (Int32.ofInt (N : Int))), (0, .ref a), (1, .int x)] → W p l e R s m args below meth c H locs cells slots Q (F0 m 5 ls []) := by
  intro d
  induction d with
  | zero =>
    intro i hi H ls locs z h1 h2 h3 h4 h5 hl
    have e : i = N := by omega
    subst e
    refine lv_iload_n hx hb abf0_5 rfl (lv_at hl 0 rfl) (lv_iload_n hx hb abf0_6 rfl (lv_at hl 1 rfl) ?_)
    exact lv_icmp_ge hx hb abf0_7 rfl (fun _ => kk H ls locs z h1 h2 h3 h4 h5) (fun q => (q ((ab_i32le hN hN).mpr (Nat.le_refl _))).elim)
  | succ d ih =>
    intro i hi H ls locs z h1 h2 h3 h4 h5 hl
    have hin : i < N := by omega
    refine lv_iload_n hx hb abf0_5 rfl (lv_at hl 0 rfl) (lv_iload_n hx hb abf0_6 rfl (lv_at hl 1 rfl) ?_)
    refine lv_icmp_ge hx hb abf0_7 rfl (fun q => ?_) (fun _ => ?_)
    · have := (ab_i32le (by omega) hN).mp q
      omega
    refine lv_aload_n hx hb abf0_10 rfl (lv_at hl 2 rfl) (lv_iload_n hx hb abf0_11 rfl (lv_at hl 0 rfl) (lv_iload_n hx hb abf0_12 rfl (lv_at hl 3 rfl) ?_))
    refine ab_w39 hx hb hK (t := 0) (ins := .iastore) rfl h1 hN (j := (i : Int)) (by omega) (by omega) ⟨x, rfl⟩ abf0_13 (fun H1 g1 g2 g3 => ?_)
    refine lv_iinc hx hb abf0_14 hl (k := 0) rfl (ab_i32s (by omega)) (by decide) rfl (fun ls' hl' => ?_)
    refine lv_goto hx hb abf0_17 (tgt := 5) rfl ?_
    refine ih (i + 1) (by omega) H1 ls' _ _ g1 (fun j hj => ?_) (g2.trans h3) (fun q hq => (g3 q hq).trans (h4 q hq)) (fun q hq => ?_) hl'
    · show updV z (i : Int).toNat (.int x) j = _
      unfold updV
      by_cases e : j = (i : Int).toNat
      · rw [if_pos e]
      · rw [if_neg e]
        exact h2 j (by omega)
    · rcases List.mem_append.mp hq with h | h
      · exact h5 q h
      · rw [List.mem_singleton.mp h]
theorem ab_fl1 (hx : p.tables.exec = Jvm.exec) (hb : c.code = prog_36_method_101_code) (hK : va_K D cl (ab_tys dA) s) {a N : Nat} {x : Int64} (hN : N ≤ 1000000) {H0 : Heap}
    (kk : ∀ (H : Heap) (ls : Array Slot) (locs : List Loc) (z : Nat → Value), H[a]? = some (arrV (dA 1) N z) → (∀ j, j < N → z j = .long x) → H.size = H0.size → (∀ q : Nat, q ≠ a → H[q]? = H0[q]?) → (∀ q ∈ locs, q.base = a) → W p l e R s m args below meth c H locs cells slots Q (F0 m 22 ls [])) :
    ∀ (d i : Nat), i + d = N → ∀ (H : Heap) (ls : Array Slot) (locs : List Loc) (z : Nat → Value), H[a]? = some (arrV (dA 1) N z) → (∀ j, j < i → z j = .long x) → H.size = H0.size → (∀ q : Nat, q ≠ a → H[q]? = H0[q]?) → (∀ q ∈ locs, q.base = a) →
      lv_has ls 5 [(3, .int (Int32.ofInt (i : Int))), (4, .int (Int32.ofInt (N : Int))), (0, .ref a), (1, .long x)] → W p l e R s m args below meth c H locs cells slots Q (F0 m 6 ls []) := by
  intro d
  induction d with
  | zero =>
    intro i hi H ls locs z h1 h2 h3 h4 h5 hl
    have e : i = N := by omega
    subst e
    refine lv_iload_n hx hb abf1_6 rfl (lv_at hl 0 rfl) (lv_iload hx hb abf1_7 (lv_at hl 1 rfl) ?_)
    exact lv_icmp_ge hx hb abf1_9 rfl (fun _ => kk H ls locs z h1 h2 h3 h4 h5) (fun q => (q ((ab_i32le hN hN).mpr (Nat.le_refl _))).elim)
  | succ d ih =>
    intro i hi H ls locs z h1 h2 h3 h4 h5 hl
    have hin : i < N := by omega
    refine lv_iload_n hx hb abf1_6 rfl (lv_at hl 0 rfl) (lv_iload hx hb abf1_7 (lv_at hl 1 rfl) ?_)
    refine lv_icmp_ge hx hb abf1_9 rfl (fun q => ?_) (fun _ => ?_)
    · have := (ab_i32le (by omega) hN).mp q
      omega
    refine lv_aload_n hx hb abf1_12 rfl (lv_at hl 2 rfl) (lv_iload_n hx hb abf1_13 rfl (lv_at hl 0 rfl) (lv_lload_n hx hb abf1_14 rfl (lv_at hl 3 rfl) ?_))
    refine ab_w39 hx hb hK (t := 1) (ins := .lastore) rfl h1 hN (j := (i : Int)) (by omega) (by omega) ⟨x, rfl⟩ abf1_15 (fun H1 g1 g2 g3 => ?_)
    refine lv_iinc hx hb abf1_16 hl (k := 0) rfl (ab_i32s (by omega)) (by decide) rfl (fun ls' hl' => ?_)
    refine lv_goto hx hb abf1_19 (tgt := 6) rfl ?_
    refine ih (i + 1) (by omega) H1 ls' _ _ g1 (fun j hj => ?_) (g2.trans h3) (fun q hq => (g3 q hq).trans (h4 q hq)) (fun q hq => ?_) hl'
    · show updV z (i : Int).toNat (.long x) j = _
      unfold updV
      by_cases e : j = (i : Int).toNat
      · rw [if_pos e]
      · rw [if_neg e]
        exact h2 j (by omega)
    · rcases List.mem_append.mp hq with h | h
      · exact h5 q h
      · rw [List.mem_singleton.mp h]
end FL
/-- the value that is filled in -/
def ab_tyv (t : Nat) (x : Value) : Prop := match t with
  | 0 => ∃ v, x = .int v
  | _ => ∃ v, x = .long v
def ab_flP (D : va_G) (cl : List vw_C) (dA : Nat → ClassId) (t a N K : Nat) (H0 : Heap) (u : State) : Prop := va_K D cl (ab_tys dA) u ∧ u.heap = H0 ∧ K = 0 ∧ ∃ z, u.heap[a]? = some (arrV (dA t) N z)
def ab_flB (dA : Nat → ClassId) (t a N : Nat) (x : Value) (H0 : Heap) (t9 : State) : Prop := (∃ z, t9.heap[a]? = some (arrV (dA t) N z) ∧ ∀ j, j < N → z j = x) ∧ t9.heap.size = H0.size ∧ ∀ q : Nat, q ≠ a → t9.heap[q]? = H0[q]?
theorem ab_fillM {l : Launch} {D : va_G} {cl : List vw_C} {dA : Nat → ClassId} {t a N : Nat} {x : Value} {H0 : Heap} (ht : t ≤ 1) (hx : ab_tyv t x) (hN : N ≤ 1000000) :
    Met l (ab_fillN t) [Cond.code (ab_fillN t) (ab_fillB t) (ab_fillL t) none] { frames := 0, cells := 0, slots := 0, locals := 0 } (va_Pc [.ref a, x] (ab_flP D cl dA t a N 0 H0))
      (va_Qv (fun _ : Unit => True) (fun _ => ab_flB dA t a N x H0) (fun q => q = a)) 0 0 (fun q => q = a) := by
  refine MetFree.of_bodySF (code := ab_fillB t) (maxLocals := ab_fillL t) (ret := none) ?_ ?_ ?_
  · rcases (show t = 0 ∨ t = 1 by omega) with rfl | rfl <;> decide +kernel
  · intro args s m h hn
    obtain ⟨meth, c, h1, h2, h3, h4, h5, h6, -, -⟩ := Cond.code_spec hn (atoms_spec (ws := [Cond.code (ab_fillN t) (ab_fillB t) (ab_fillL t) none]) h _ List.mem_cons_self)
    exact ⟨meth, c, h1, h2, h3, h4, h5, h6⟩
  · intro p e s m args below meth c s₁ B hml hP _
    obtain ⟨rfl, hK, hH0, -, z, hz⟩ := hP
    subst hH0
    have hh0 : s₁.heap = s.heap := by rw [B.state]; rfl
    have fin : ∀ (H : Heap) (ls : Array Slot) (locs : List Loc) (z : Nat → Value) (pc : Nat), decode (ab_fillB t) pc = .ok (.return_, 1) → H[a]? = some (arrV (dA t) N z) → (∀ j, j < N → z j = x) → H.size = s.heap.size → (∀ q : Nat, q ≠ a → H[q]? = s.heap[q]?) → (∀ q ∈ locs, q.base = a) →
        W p l e (headSpec [Cond.code (ab_fillN t) (ab_fillB t) (ab_fillL t) none] { frames := 0, cells := 0, slots := 0, locals := 0 }).room s m (#[.ref a, x]) below meth c H locs 0 0 (MQ below (va_Qv (fun _ : Unit => True) (fun _ => ab_flB dA t a N x s.heap) (fun q => q = a)) (#[.ref a, x]) s 0 0 (fun q => q = a)) (F0 m pc ls []) := fun H ls locs z pc hd h1 h2 h3 h4 h5 =>
      W.vret B.exec B.bytes B.returns (fun t9 ht9 _ => ⟨⟨(), rfl, trivial, ⟨⟨z, by rw [ht9]; exact h1, h2⟩, by rw [ht9]; exact h3, fun q hq => by rw [ht9]; exact h4 q hq⟩⟩, ⟨by rw [ht9, h3]; exact Nat.le_refl _, fun q _ hq => by rw [ht9]; exact h4 q hq⟩⟩) h5 hd B.notSynchronized
    have go : W p l e (headSpec [Cond.code (ab_fillN t) (ab_fillB t) (ab_fillL t) none] { frames := 0, cells := 0, slots := 0, locals := 0 }).room s m (#[.ref a, x]) below meth c s.heap [] 0 0 (MQ below (va_Qv (fun _ : Unit => True) (fun _ => ab_flB dA t a N x s.heap) (fun q => q = a)) (#[.ref a, x]) s 0 0 (fun q => q = a)) (entryFrame m (#[.ref a, x]) (ab_fillL t)) := by
      have hent : entryFrame m (#[.ref a, x]) (ab_fillL t) = F0 m 0 ((lg_sl [.ref a, x] ++ List.replicate (ab_fillL t - (lg_sl [.ref a, x]).length) Slot.unset).toArray) [] := lg_entry_eq m [.ref a, x] (ab_fillL t)
      rw [hent]
      rcases (show t = 0 ∨ t = 1 by omega) with rfl | rfl
      · obtain ⟨v, rfl⟩ := hx
        have hl := lv_entry [.ref a, .int v] (n := 4) (by show 2 ≤ 4; decide)
        show W _ _ _ _ _ _ _ _ _ _ _ _ _ _ _ (F0 m 0 ((lg_sl [.ref a, .int v] ++ List.replicate (4 - (lg_sl [.ref a, .int v]).length) Slot.unset).toArray) [])
        generalize ((lg_sl [.ref a, .int v] ++ List.replicate (4 - (lg_sl [.ref a, .int v]).length) Slot.unset).toArray) = ls at hl ⊢
        have hl : lv_has ls 4 [(0, .ref a), (1, .int v)] := hl
        refine lv_iconst B.exec B.bytes abf0_0 (v := Int32.ofInt ((0 : Nat) : Int)) rfl (lv_istore_n B.exec B.bytes abf0_1 rfl hl (by decide) rfl (fun ls1 hl1 => ?_))
        refine lv_aload_n B.exec B.bytes abf0_2 rfl (lv_at hl1 1 rfl) (ab_w37 B.exec B.bytes hK (by decide) hz abf0_3 ?_)
        refine lv_istore_n B.exec B.bytes abf0_4 rfl hl1 (by decide) rfl (fun ls2 hl2 => ?_)
        exact ab_fl0 B.exec B.bytes hK hN (H0 := s.heap) (fun H ls locs z h1 h2 h3 h4 h5 => fin H ls locs z 20 abf0_20 h1 h2 h3 h4 h5) N 0 (Nat.zero_add N) s.heap ls2 [] z hz (fun j hj => by omega) rfl (fun _ _ => rfl) (fun q hq => nomatch hq) ⟨hl2.1, hl2.2.1, fun q hq => by
          rcases List.mem_cons.mp hq with rfl | hq
          · exact lv_at hl2 1 rfl
          rcases List.mem_cons.mp hq with rfl | hq
          · exact lv_at hl2 0 rfl
          rcases List.mem_cons.mp hq with rfl | hq
          · exact lv_at hl2 2 rfl
          rcases List.mem_cons.mp hq with rfl | hq
          · exact lv_at hl2 3 rfl
          cases hq⟩
      · obtain ⟨v, rfl⟩ := hx
        have hl := lv_entry [.ref a, .long v] (n := 5) (by show 3 ≤ 5; decide)
        show W _ _ _ _ _ _ _ _ _ _ _ _ _ _ _ (F0 m 0 ((lg_sl [.ref a, .long v] ++ List.replicate (5 - (lg_sl [.ref a, .long v]).length) Slot.unset).toArray) [])
        generalize ((lg_sl [.ref a, .long v] ++ List.replicate (5 - (lg_sl [.ref a, .long v]).length) Slot.unset).toArray) = ls at hl ⊢
        have hl : lv_has ls 5 [(0, .ref a), (1, .long v)] := hl
        refine lv_iconst B.exec B.bytes abf1_0 (v := Int32.ofInt ((0 : Nat) : Int)) rfl (lv_istore_n B.exec B.bytes abf1_1 rfl hl (by decide) rfl (fun ls1 hl1 => ?_))
        refine lv_aload_n B.exec B.bytes abf1_2 rfl (lv_at hl1 1 rfl) (ab_w37 B.exec B.bytes hK (by decide) hz abf1_3 ?_)
        refine lv_istore B.exec B.bytes abf1_4 hl1 (by decide) rfl (fun ls2 hl2 => ?_)
        exact ab_fl1 B.exec B.bytes hK hN (H0 := s.heap) (fun H ls locs z h1 h2 h3 h4 h5 => fin H ls locs z 22 abf1_22 h1 h2 h3 h4 h5) N 0 (Nat.zero_add N) s.heap ls2 [] z hz (fun j hj => by omega) rfl (fun _ _ => rfl) (fun q hq => nomatch hq) ⟨hl2.1, hl2.2.1, fun q hq => by
          rcases List.mem_cons.mp hq with rfl | hq
          · exact lv_at hl2 1 rfl
          rcases List.mem_cons.mp hq with rfl | hq
          · exact lv_at hl2 0 rfl
          rcases List.mem_cons.mp hq with rfl | hq
          · exact lv_at hl2 2 rfl
          rcases List.mem_cons.mp hq with rfl | hq
          · exact lv_at hl2 3 rfl
          cases hq⟩
    obtain ⟨t9, a1, o, b1, b2, b3⟩ := go s₁ hh0 (Stand.of_body B)
    exact ⟨t9, o, a1, b1, b2, b3⟩
end
section
/-! A THROW: the exception made and thrown (ab_make0 follows vx_make0 of kit/laws/EXCEPTIONS, told of the whole heap). -/
section MK0
variable {p : Program} {l : Launch} {e : Env} {R : Room} {s : State} {m : MethodId} {args : Array Value} {below : List Frame} {meth : Method} {c : Code} {H : Heap} {locs : List Loc} {cells slots : Nat} {Q : State → Prop}
theorem ab_make0 {cc : ByteArray} {pc : Nat} {ls : Array Slot} {rest : List Value} (hexec : p.tables.exec = Jvm.exec) (hb : c.code = cc) (hl : l.stackTraces = false) {own cls : String} {names : List String} {ik ic : Nat} {A : Nat → Prop}
    (hown : s.vm.findClass own = some m.cls) (hcls : Bundle.fit cls = true) (hnames : ∀ n ∈ names, Bundle.fit n = true)
    (hk : (Cond.classLink own ik cls).before args s = true) (hini : (Cond.initialized cls).before args s = true) (hat : ∀ w ∈ vx_at0 own ic cls names, w.before args s = true)
    (hgood : ∀ w ∈ Cond.classLink own ik cls :: Cond.initialized cls :: vx_at0 own ic cls names, vx_ot w = true)
    (hU : vx_Zq Bundle.tN "UNASSIGNED_STACK" Bundle.steD A s s.heap) (hN : vx_Zq Bundle.tN "SUPPRESSED_SENTINEL" Bundle.listD A s s.heap) (hS : va_S A s.heap H locs) (hsize : ls.size = c.maxLocals)
    (d0 : decode cc pc = .ok (.new ik, 3)) (d3 : decode cc (pc + 3) = .ok (.dup, 1)) (d4 : decode cc (pc + 4) = .ok (.invokespecial ic, 3))
    (hRframes : names.length + 3 < R.frames) (hRlocals : (rest.map fun v => v.category).sum + (13 * (names.length + 1) + 42) ≤ R.locals) (hRcells : cells + 1 ≤ R.cells) (hRslots : slots + 6 ≤ R.slots)
    (kk : ∀ (H1 : Heap) (ce : Cell), H1[H.size]? = some ce → ce.vm = .none → s.vm.findClass cls = some ce.cls → H1.size = H.size + 1 → (∀ q : Nat, q < H.size → H1[q]? = H[q]?) → W p l e R s m args below meth c H1 locs (cells + 1) (slots + 6) Q (F0 m (pc + 7) ls (.ref H.size :: rest))) :
    W p l e R s m args below meth c H locs cells slots Q (F0 m pc ls rest) := by
  intro T hT X
  subst hT
  have htr : e.platform.stackTraces = false := (show e.platform.stackTraces = l.stackTraces by rw [X.admits.platform]).trans hl
  have Y := vx_rebase X (R' := { frames := R.frames, locals := R.locals, cells := 1, slots := 6 }) (Nat.le_refl _) (Nat.le_refl _) hRcells hRslots
  obtain ⟨s', hA'⟩ : ∃ z, z = (T.setVm s.vm).setFrames (.invoking m args :: below) := ⟨_, rfl⟩
  rw [← hA'] at Y
  have hvm : s'.vm = s.vm := by rw [hA']; rfl
  have hhp : s'.heap = T.heap := by rw [hA']; rfl
  have hW0 : s.WarmedH s'.vm := by rw [hvm]; exact State.WarmedH.refl s
  have hat' : ∀ w ∈ vx_at0 own ic cls names, w.before args s' = true := fun w hw => vx_ot_at hW0 hvm.symm (hgood w (List.mem_cons_of_mem _ (List.mem_cons_of_mem _ hw))) (hat w hw)
  have hk' : (Cond.classLink own ik cls).before args s' = true := vx_ot_at hW0 hvm.symm (hgood _ List.mem_cons_self) hk
  have hini' : (Cond.initialized cls).before args s' = true := vx_ot_at hW0 hvm.symm (hgood _ (List.mem_cons_of_mem _ List.mem_cons_self)) hini
  have hU' : vx_Zq Bundle.tN "UNASSIGNED_STACK" Bundle.steD A s' s'.heap := by rw [hhp]; exact vx_Zq.moved hW0.alike (hU.kept hS.2.1)
  have hN' : vx_Zq Bundle.tN "SUPPRESSED_SENTINEL" Bundle.listD A s' s'.heap := by rw [hhp]; exact vx_Zq.moved hW0.alike (hN.kept hS.2.1)
  have h : ∀ w ∈ Bundle.ownAtoms0 own ic cls names, w.before args s' = true := vx_own hat' (vx_isRefq hU'.1) (vx_isRefq hN'.1) hU'.2.word hN'.2.word
  have hown' : s'.vm.findClass own = some m.cls := by rw [hvm]; exact hown
  have hins : (Cond.instantiable cls 6).before args s' = true := h _ (by simp [Bundle.ownAtoms0])
  obtain ⟨vm₁, cX, kX, hfX, hkX, -, -, X₁, st1⟩ := Y.newCold hexec (own := own) (C := cls) (index := ik) (n := 6) hown' hk' hins hini'
    (g := F0 m pc ls rest) rfl (by rw [hb]; exact d0) (Nat.le_refl _) (Nat.le_refl _)
  generalize hT1 : (T.setVm vm₁).pushCell { cls := cX, slots := kX.instanceTypes.map defaultValue, vm := .none } = T1 at X₁ st1
  have hcat : (Value.ref T.heap.size).category = 1 := rfl
  have hcellA : T1.heap[T.heap.size]? = some (freshCell cX kX) := by rw [← hT1]; exact State.heap_pushCell_size _ _
  have d3' : decode c.code (pc + 3) = .ok (.dup, 1) := by rw [hb]; exact d3
  obtain ⟨V, ce, L, Z, hL, hlt, hcl9, hvm9, st⟩ := vx_ctorMade0 X₁ hexec htr (own := own) (cls := cls) (names := names) (ic := ic) hown' hcls hnames h (fun x hx => nomatch hx) hfX hkX hcellA (by rw [hhp]; exact Nat.le_refl _)
    (g := { method := m, pc := pc + 4, locals := ls, stack := .ref T.heap.size :: .ref T.heap.size :: rest, locked := none }) rfl hsize (rest := rest) rfl
    (by rw [hb]; exact d4) hRframes (by simp only [List.map_cons, List.sum_cons, hcat]; omega)
  have Z0 := Stand.forget (locs := []) Z (fun y hy => by rw [hL y hy, hhp]; exact Nat.le_refl _)
  obtain ⟨f1, f2⟩ := vx_frame Z0.same
  have f3 : (V.setCell T.heap.size ce).heap.size ≤ s'.heap.size + 1 := by
    obtain ⟨-, -, h3, -⟩ := Z0.same
    exact h3
  rw [hhp] at f1 f2 f3
  have hh : (V.setCell T.heap.size ce).heap[T.heap.size]? = some ce := heapAt_setCell_self (s := V) ce hlt
  have hlt2 : T.heap.size < (V.setCell T.heap.size ce).heap.size := (Array.getElem?_eq_some_iff.mp hh).1
  have hcX : s.vm.findClass cls = some ce.cls := by
    rw [hcl9]
    rw [hvm] at hfX
    exact hfX
  subst hA'
  have X5 := vx_back9 X Y Z0
  have X6 : Stand p l e R s m args below meth c (V.setCell T.heap.size ce) locs (cells + 1) (slots + 6) := { X5 with same := X5.same.mono (by omega) (by omega) }
  obtain ⟨t, a1, b1⟩ := kk (V.setCell T.heap.size ce).heap ce hh hvm9 hcX (by omega) (fun q hq => f2 q hq (fun z hz => nomatch hz)) _ rfl X6
  refine ⟨t, st1 _ ?_, b1⟩
  show Steps p.tables e below (T1.setTop { method := m, pc := pc + 3, locals := ls, stack := .ref T.heap.size :: rest, locked := none }) _
  jvm_step X₁.here [X₁.here.top, hexec, d3', Value.category]
  exact st _ a1
end MK0
end
section
/-! STEPS: a throw, rows of rows made at once, a fill, a copy. -/
def ab_E33 (Z : ab_ZT) (y pc x1 : Nat) (ins : Instr) (len : Nat) : Prop := len = 3 ∧ ∃ (names : List String) (ik ic : Nat), ins = .new ik ∧ decode (ab_zCB Z y) (pc + 3) = .ok (.dup, 1) ∧ decode (ab_zCB Z y) (pc + 4) = .ok (.invokespecial ic, 3) ∧ decode (ab_zCB Z y) (pc + 7) = .ok (.athrow, 1) ∧
  Bundle.fit (ab_zEN Z x1) = true ∧ (∀ n ∈ names, Bundle.fit n = true) ∧ (∀ w ∈ Cond.classLink (ab_zY Z y).cls ik (ab_zEN Z x1) :: Cond.initialized (ab_zEN Z x1) :: vx_at0 (ab_zY Z y).cls ic (ab_zEN Z x1) names, vx_ot w = true ∧ (w ∈ ab_zTW Z ∨ w ∈ ab_zNW Z)) ∧
  names.length + 3 < ab_zFR Z y ∧ 40 + (13 * (names.length + 1) + 42) ≤ ab_zLO Z y
def ab_E35 (Z : ab_ZT) (y x1 : Nat) (ins : Instr) (len : Nat) : Prop := len = 4 ∧ (x1 = 3 ∨ x1 = 4) ∧ ∃ i, ins = .multianewarray i 2 ∧ Cond.classLink (ab_zY Z y).cls i ("[" ++ (FieldType.array (ab_et (x1 - 3))).toString) ∈ ab_zTW Z ∧ Cond.arrayClass (ab_et (x1 - 3)) ∈ ab_zTW Z
def ab_E42 (Z : ab_ZT) (y x1 : Nat) (ins : Instr) (len : Nat) : Prop := len = 3 ∧ x1 ≤ 1 ∧ 1 ≤ ab_zFR Z y ∧ 24 ≤ ab_zLO Z y ∧ ∃ i, ins = .invokestatic i ∧ Cond.methodLink (ab_zY Z y).cls i (ab_fillN x1) ∈ ab_zTW Z ∧ Cond.static (ab_fillN x1) ∈ ab_zTW Z ∧ Cond.initialized "java/util/Arrays" ∈ ab_zTW Z ∧ Cond.code (ab_fillN x1) (ab_fillB x1) (ab_fillL x1) none ∈ ab_zTW Z
def ab_E43 (Z : ab_ZT) (y : Nat) (ins : Instr) (len : Nat) : Prop := len = 3 ∧ 1 ≤ ab_zFR Z y ∧ 100 ≤ ab_zLO Z y ∧ ∃ i, ins = .invokestatic i ∧ Cond.methodLink (ab_zY Z y).cls i arraycopyName ∈ ab_zTW Z ∧ Cond.native arraycopyName ∈ ab_zTW Z ∧ Cond.static arraycopyName ∈ ab_zTW Z ∧ Cond.initialized "java/lang/System" ∈ ab_zTW Z
theorem ab_fillK {t : Nat} (ht : t ≤ 1) : (ab_fillN t).cls = "java/util/Arrays" ∧ ∀ sig, parseMethodDescriptor (ab_fillN t).desc = some sig → 2 = sig.parameters.length := by
  have h : (ab_fillN t).cls = "java/util/Arrays" ∧ (parseMethodDescriptor (ab_fillN t).desc).map (fun d => d.parameters.length) = some 2 := by
    rcases (show t = 0 ∨ t = 1 by omega) with rfl | rfl <;> exact ⟨rfl, by decide +kernel⟩
  refine ⟨h.1, fun sig hs => ?_⟩
  have h2 := h.2
  rw [hs] at h2
  exact (Option.some.inj h2).symm
/-- rows of rows made at once: what the library's row says (Shelf42 has it; it is used in the last part alone) -/
def ab_MAH : Prop := ∀ (p : Program) (l : Launch) (e : Env) (R : Room) (s : State) (m : MethodId) (args : Array Value) (below : List Frame) (meth : Method) (c : Code) (T : State) (locs : List Loc) (cells slots : Nat) (own : String) (index t n k pc : Nat) (ls : Array Slot) (rest : List Value), t ≤ 1 → n ≤ 100 → k ≤ 10000 →
  Stand p l e R s m args below meth c T locs cells slots → p.tables.exec = Jvm.exec → s.vm.findClass own = some m.cls → (Cond.classLink own index ("[" ++ (FieldType.array (ab_et t)).toString)).before args s = true → (Cond.arrayOver (.array (ab_et t))).before args s = true → (Cond.arrayClass (ab_et t)).before args s = true →
  decode c.code pc = .ok (.multianewarray index 2, 4) → cells + (1 + n) ≤ R.cells → slots + (n + n * k) ≤ R.slots →
  ∃ (T2 : State) (cA comp : ClassId), s.vm.findClass ("[" ++ (FieldType.array (ab_et t)).toString) = some cA ∧ s.vm.findClass (FieldType.array (ab_et t)).toString = some comp ∧ Stand p l e R s m args below meth c T2 locs (cells + (1 + n)) (slots + (n + n * k)) ∧ T2.heap.size = T.heap.size + (1 + n) ∧ (∀ q : Nat, q < T.heap.size → T2.heap[q]? = T.heap[q]?) ∧
    T2.heap[T.heap.size]? = some (arrV cA n (fun j => if j < n then .ref (T.heap.size + 1 + j) else .null)) ∧ (∀ j : Nat, j < n → T2.heap[T.heap.size + 1 + j]? = some (arrV comp k (fun _ => defaultValue (ab_et t)))) ∧
    ∀ target, Steps p.tables e below (T2.setTop (F0 m (pc + 4) ls (.ref T.heap.size :: rest))) target → Steps p.tables e below (T.setTop (F0 m pc ls (.int (Int32.ofInt (.ofNat k)) :: .int (Int32.ofInt (.ofNat n)) :: rest))) target
theorem ab_many_n (ty b : Nat) (h : ab_H) : ∀ n, (ab_many ty b h n).1 = h.1 + n
  | 0 => rfl
  | n + 1 => congrArg (· + 1) (ab_many_n ty b h n)
theorem ab_many_cl (BS : Nat → Option ab_C) (ty b : Nat) (h : ab_H) (d : Nat) : ∀ n, ab_cl BS (ab_many ty b h n) d = if h.1 ≤ d ∧ d < h.1 + n then some (.inr (ty, b, some (ab_def ty, []))) else ab_cl BS h d
  | 0 => by
    rw [if_neg (by omega)]
    rfl
  | n + 1 => by
    show ab_cl BS (ab_new (ab_many ty b h n) _) d = _
    rw [ab_cl_new, ab_many_n, ab_many_cl BS ty b h d n]
    by_cases e : h.1 + n = d
    · rw [if_pos e, if_pos (by omega)]
    · rw [if_neg e]
      by_cases e2 : h.1 ≤ d ∧ d < h.1 + n
      · rw [if_pos e2, if_pos (by omega)]
      · rw [if_neg e2, if_neg (by omega)]
theorem ab_lk_map {f : Nat → ab_V} : ∀ {l : List Nat} {j : Nat}, j ∈ l → ab_lk (l.map (fun i => (i, f i))) j = some (f j)
  | [], _, h => nomatch h
  | i :: l, j, h => by
    rw [List.map_cons, ab_lk_cons]
    cases hb : Nat.beq i j
    · rcases List.mem_cons.mp h with e | e
      · exact absurd e.symm (Nat.ne_of_beq_eq_false hb)
      · exact ab_lk_map e
    · rw [show i = j from ab_beq hb]
      rfl
section S5
variable {Z : ab_ZT} {U : ab_UT} {F : ab_X} {y : Nat} {X : ab_XT} {ρ : Nat → Int} {cuts : List Nat} {pc : Nat} {A : Int} {x1 x2 : Nat} {Xs : List Nat} {pos rest : List ab_E} {L : ab_L} {S : List ab_V} {G : ab_G} {h : ab_H} {cn sn : Nat} {k : ab_K} {ins : Instr} {len : Nat}
theorem ab_st33 (hGd : ab_Gd Z) (hc : ab_Cx Z U y X) (hs : ab_Sat ρ G) (hk : ab_Hk Z U y X G.1 ρ k) (hd : decode (ab_zCB Z y) pc = .ok (ins, len)) (hE : ab_E33 Z y pc x1 ins len)
    (hx : (match (ab_zP Z y).2.2.2 with
      | [] => bif (bif ab_rm (ab_zP Z) y (cn + 1) (sn + 6) then Nat.ble S.length 20 else false) then k 1 x1 [] L G (ab_new h (.inr (9, 0, none))) (cn + 1) (sn + 6) else false
      | _ :: _ => false) = true) : ab_Go Z U y X ρ G.1 pc S L h cn sn := by
  obtain ⟨rfl, names, ik, ic, rfl, d3, d4, d7, f1, f2, hw, f3, f4⟩ := hE
  split at hx
  · rename_i hnil
    obtain ⟨q1, q2⟩ := ab_an hx
    obtain ⟨q3, q4⟩ := ab_an q1
    obtain ⟨r1, r2⟩ := ab_rm_ok hc q3
    intro H ls st locs a1 a2 a3 a4
    obtain ⟨lv, hlv, hlv2⟩ := a2
    have hwords := a3.words
    have hlen := ab_ble q4
    have hR := hc.2.2.2.2.2.2.2.2.2.2.1
    have ok : ∀ w ∈ Cond.classLink (ab_zY Z y).cls ik (ab_zEN Z x1) :: Cond.initialized (ab_zEN Z x1) :: vx_at0 (ab_zY Z y).cls ic (ab_zEN Z x1) names, w.before (ab_xA X) (ab_xs X) = true := fun w h => by
      rcases (hw w h).2 with h2 | h2
      · exact hc.2.2.2.2.2.2.2.1 _ h2
      · exact va_Nw.use (hGd.2.2.1 _ h2) (hc.2.2.2.2.2.2.2.2.1.2.1 _ h2)
    refine ab_make0 hc.1 hc.2.1 hc.2.2.2.2.2.2.2.2.2.1 hc.2.2.2.1 f1 f2 (ok _ List.mem_cons_self) (ok _ (List.mem_cons_of_mem _ List.mem_cons_self)) (fun w h => ok w (List.mem_cons_of_mem _ (List.mem_cons_of_mem _ h))) (fun w h => (hw w h).1) hc.2.2.2.2.2.2.2.2.1.2.2.2.2.1 hc.2.2.2.2.2.2.2.2.1.2.2.2.2.2.1 a4 (by rw [hc.2.2.1]; exact hlv.1) hd d3 d4 (by rw [hR.1]; exact f3) (by rw [hR.2.1]; omega) r1 r2 (fun H1 ce g1 g2 g3 g4 g5 => ?_)
    refine vx_athrow hc.1 hc.2.1 d7 ?_
    exact hk 1 x1 [] L G _ _ _ ρ q2 (ab_Ext.rf _ _) hs hnil (pc + 7) H1 ls st locs H.size ce (a1.new hc.2.2.2.2.2.2.2.2.2.2.2.1 (Or.inl ⟨rfl, ce, g1⟩) g4 g5) g1 g2 g3 (ab_vS_new a4 g4 g5)
  · cases hx
theorem ab_st35 (hMA : ab_MAH) (hGd : ab_Gd Z) (hih : ab_Ok Z U F) (hc : ab_Cx Z U y X) (hs : ab_Sat ρ G) (hk : ab_Hk Z U y X G.1 ρ k) (hd : decode (ab_zCB Z y) pc = .ok (ins, len)) (hr : ∃ i, rest = ab_dr i (ab_zP Z y).1) (hn : ∀ e r, rest = e :: r → e.1 = pc + len) (hE : ab_E35 Z y x1 ins len)
    (hx : ab_i35 x1 S h (fun S' h' a b => bif ab_rm (ab_zP Z) y (cn + a) (sn + b) then F y cuts false rest L S' G h' (cn + a) (sn + b) k else false) = true) : ab_Go Z U y X ρ G.1 pc S L h cn sn := by
  obtain ⟨rfl, ht, i, rfl, w1, w2⟩ := hE
  unfold ab_i35 at hx
  split at hx
  · rename_i b0 a0 S'
    obtain ⟨q1, q2⟩ := ab_an hx
    obtain ⟨q3, q4⟩ := ab_an q1
    obtain ⟨q5, q6⟩ := ab_an q2
    obtain ⟨r1, r2⟩ := ab_rm_ok hc q5
    intro H ls st locs a1 a2 a3 a4
    obtain ⟨x, st1, rfl, ⟨rfl, b3, b4⟩, b5⟩ := a3.cons
    obtain ⟨x', st2, rfl, ⟨rfl, d3, d4⟩, c5⟩ := b5.cons
    have hTW := hc.2.2.2.2.2.2.2.1
    have hK := hc.2.2.2.2.2.2.2.2.1.1
    have hov : (Cond.arrayOver (.array (ab_et (x1 - 3)))).before (ab_xA X) (ab_xs X) = true := by
      rcases ht with rfl | rfl
      · exact hc.2.2.2.2.2.2.2.2.1.2.2.2.2.2.2
      · exact hc.2.2.2.2.2.2.2.2.1.2.2.1
    intro T hT XT
    subst hT
    obtain ⟨T2, cA, comp, fA, fC, XT2, z1, z2, z3, z4, go⟩ := hMA _ _ _ _ _ _ _ _ _ _ T locs cn sn (ab_zY Z y).cls i (x1 - 3) a0 b0 pc ls st2 (by omega) (ab_ble q3) (ab_ble q4) XT hc.1 hc.2.2.2.1 (hTW _ w1) hov (hTW _ w2) (by rw [hc.2.1]; exact hd) r1 r2
    have hcls : cA = U.2.1 x1 ∧ comp = U.2.1 (x1 - 3) := by
      rcases ht with rfl | rfl
      · exact ⟨Option.some.inj (fA.symm.trans (hK.2 3 _ rfl).2), Option.some.inj (fC.symm.trans (hK.2 0 _ rfl).2)⟩
      · exact ⟨Option.some.inj (fA.symm.trans (hK.2 4 _ rfl).2), Option.some.inj (fC.symm.trans (hK.2 1 _ rfl).2)⟩
    obtain ⟨rfl, rfl⟩ := hcls
    have ha := a1.addr
    have hh1 := a1.1
    have hsz := a1.2.1
    have had : ∀ d : Nat, 1 ≤ d → ab_ad U.2.2.1 U.2.2.2 d = U.2.2.2 + (d - 1) := fun d h1 => by
      cases d with
      | zero => omega
      | succ q => rfl
    have hq4 := ab_ble q4
    have hq3 := ab_ble q3
    have hH' : ab_rH Z U G.1 ρ (ab_many (x1 - 3) b0 (ab_new h (.inr (x1, a0, some (.inr (.inr 0), (List.range a0).map (fun i => (i, .inr (.inl (h.1 + 1 + i)))))))) a0) T2.heap := by
      refine ⟨?_, ?_, fun d x hd9 => ?_⟩
      · rw [ab_many_n]
        show 1 ≤ h.1 + 1 + a0
        omega
      · rw [ab_many_n, z1]
        show T.heap.size + (1 + a0) = U.2.2.2 + (h.1 + 1 + a0 - 1)
        omega
      · rw [ab_many_cl, ab_cl_new] at hd9
        rw [ab_many_n]
        show d < h.1 + 1 + a0 ∧ _
        by_cases e1 : h.1 + 1 ≤ d ∧ d < h.1 + 1 + a0
        · have hd9 : (if h.1 + 1 ≤ d ∧ d < h.1 + 1 + a0 then some (.inr (x1 - 3, b0, some (ab_def (x1 - 3), []))) else (if h.1 = d then _ else ab_cl (ab_zBS Z) h d)) = some x := hd9
          rw [if_pos e1] at hd9
          cases hd9
          refine ⟨e1.2, ?_⟩
          rw [had d (by omega), show U.2.2.2 + (d - 1) = T.heap.size + 1 + (d - (h.1 + 1)) by omega, z4 _ (by omega)]
          exact ab_RC_row.mpr (Or.inr ⟨by omega, by omega, _, rfl, fun j hj => ⟨ab_ty_def, ab_def_ok (b := U.2.2.1) (B := U.2.2.2) (n := G.1) (ρ := ρ) (t := x1 - 3) (ty := ab_et (x1 - 3)) (ab_et_tk (by omega))⟩⟩)
        · have hd9 : (if h.1 + 1 ≤ d ∧ d < h.1 + 1 + a0 then some (.inr (x1 - 3, b0, some (ab_def (x1 - 3), []))) else (if h.1 = d then _ else ab_cl (ab_zBS Z) h d)) = some x := hd9
          rw [if_neg e1] at hd9
          by_cases e2 : h.1 = d
          · rw [if_pos e2] at hd9
            cases hd9
            subst e2
            refine ⟨by omega, ?_⟩
            rw [ha, z3]
            refine ab_RC_row.mpr (Or.inr ⟨by omega, by omega, _, rfl, fun j hj => ⟨?_, ?_⟩⟩)
            · rcases ht with rfl | rfl <;> exact trivial
            · show ab_RV _ _ _ _ (ab_el (.inr (.inr 0)) ((List.range a0).map (fun i => (i, .inr (.inl (h.1 + 1 + i))))) j) _
              unfold ab_el
              rw [ab_lk_map (f := fun i => .inr (.inl (h.1 + 1 + i))) (List.mem_range.mpr hj), if_pos hj]
              show Value.ref _ = Value.ref _
              rw [had _ (by omega)]
              exact congrArg Value.ref (show (T.heap.size + 1 + j : Nat) = U.2.2.2 + (h.1 + 1 + j - 1) by omega)
          · rw [if_neg e2] at hd9
            have h3 := a1.2.2 d x hd9
            refine ⟨by omega, ?_⟩
            have hlt : ab_ad U.2.2.1 U.2.2.2 d < T.heap.size := by
              have hbB := hc.2.2.2.2.2.2.2.2.2.2.2.1
              rcases Nat.eq_zero_or_pos d with e3 | e3
              · subst e3
                show U.2.2.1 < _
                omega
              · rw [had d e3]
                have := h3.1
                omega
            rw [z2 _ hlt]
            exact h3.2
    obtain ⟨t9, y1, y2⟩ := ab_nx hih hc q6 hr hn hs hk (ab_Ext.rf _ _) T2.heap ls (.ref T.heap.size :: st2) locs hH' a2 ⟨(by show Value.ref T.heap.size = .ref _; rw [ha]), c5⟩ (ab_vS_new a4 z1 z2) T2 rfl XT2
    exact ⟨t9, go t9 y1, y2⟩
  · cases hx
theorem ab_st42 (hGd : ab_Gd Z) (hih : ab_Ok Z U F) (hc : ab_Cx Z U y X) (hs : ab_Sat ρ G) (hk : ab_Hk Z U y X G.1 ρ k) (hd : decode (ab_zCB Z y) pc = .ok (ins, len)) (hr : ∃ i, rest = ab_dr i (ab_zP Z y).1) (hn : ∀ e r, rest = e :: r → e.1 = pc + len) (hE : ab_E42 Z y x1 ins len)
    (hx : ab_i42 (ab_zBS Z) x1 S G h (fun S' h' => bif ab_rm (ab_zP Z) y cn sn then F y cuts false rest L S' G h' cn sn k else false) = true) : ab_Go Z U y X ρ G.1 pc S L h cn sn := by
  obtain ⟨rfl, ht, f1, f2, i, rfl, w1, w2, w3, w4⟩ := hE
  unfold ab_i42 at hx
  split at hx
  · rename_i v c S'
    split at hx
    · rename_i tz n ct hcl
      obtain ⟨q1, q2⟩ := ab_an hx
      obtain ⟨q5, q6⟩ := ab_an q1
      have et : x1 = tz := ab_beq q5
      subst et
      rcases ab_if q6 with ⟨_, q⟩ | ⟨q0, q6⟩
      · cases q
      rcases ab_if q6 with ⟨_, q⟩ | ⟨q7, q6⟩
      · cases q
      obtain ⟨q8, q9⟩ := ab_an q6
      have hc0 : c ≠ 0 := Nat.ne_of_beq_eq_false q0
      intro H ls st locs a1 a2 a3 a4
      obtain ⟨x, st1, rfl, b1, b5⟩ := a3.cons
      obtain ⟨x2', st3, rfl, e1, e5⟩ := b5.cons
      have ex : x2' = .ref (ab_ad U.2.2.1 U.2.2.2 c) := e1
      subst ex
      rcases ab_RC_row.mp (a1.2.2 _ _ hcl).2 with ⟨g, _⟩ | ⟨g1, g2, zf, g3, g4⟩
      · omega
      have hxt : ab_ty x1 x := ab_fit_ty hs (by omega) b1 q9
      have hxv : ab_tyv x1 x := by
        rcases (show x1 = 0 ∨ x1 = 1 by omega) with e | e <;> (subst e; exact hxt)
      obtain ⟨lv, hlv, hlv2⟩ := a2
      have hwords := e5.words
      have hlen := ab_ble q8
      have hTW := hc.2.2.2.2.2.2.2.1
      have hK := hc.2.2.2.2.2.2.2.2.1.1
      have hR := hc.2.2.2.2.2.2.2.2.2.2.1
      obtain ⟨k1, k2⟩ := ab_fillK ht
      have hmet := ab_fillM (l := X.2.1) (D := U.1) (cl := ab_zcl Z) (dA := U.2.1) (a := ab_ad U.2.2.1 U.2.2.2 c) (H0 := H) ht hxv g2
      obtain ⟨q11, q2⟩ := ab_an q2
      have hroom := ab_rm_ok hc q11
      · have hrun := va_runS (H := H) (locs := locs) (cells := cn) (slots := sn) (Ts := ab_zTW Z) (own := (ab_zY Z y).cls) (e := X.2.2.1) (below := X.2.2.2.2.2.2.2.1) (meth := ab_xM X) ⟨hc.1, hc.2.1, hc.2.2.1, hc.2.2.2.1, hTW⟩ hmet (R := ab_xR X) (index := i) (n := 2) (bytes := ab_fillB x1) (maxL := ab_fillL x1) (ret := none)
          ⟨⟨rfl, rfl, by rw [hR.1]; exact f1, by
            rw [hR.2.1]
            have : ab_fillL x1 ≤ 5 := by
              rcases (show x1 = 0 ∨ x1 = 1 by omega) with e | e <;> (subst e; decide)
            show 8 + (ab_fillL x1 + 11) + 0 ≤ _
            omega, pay_in hTW (fun w hw => by
            rw [List.mem_singleton.mp hw]
            exact ⟨w4, hGd.1 _ w4⟩), List.mem_cons_self, hTW _ w4, by rw [k1]; exact hTW _ w3, by rw [k1]; decide, k2, hTW _ w1⟩, hTW _ w2⟩
          ⟨fun a t g mk hP => ⟨hP.1, va_K.moved (State.WarmedH.refl t).alike hP.2.1, hP.2.2⟩, fun t ht9 hW => ⟨rfl, va_K.moved hW.alike hK, ht9, rfl, zf, by rw [ht9]; exact g3⟩⟩
          (g := F0 (ab_xm X) pc ls (x :: .ref (ab_ad U.2.2.1 U.2.2.2 c) :: st3)) rfl rfl hlv.1 (rest := st3) rfl (by show 2 * 0 + _ ≤ 8; omega) hd hroom
        refine va_callv (A0 := ab_nA U) (H0 := (ab_xs X).heap) hrun a4 (fun q _ e => by rw [e]; exact ab_ad_new hc0) (fun q e => by rw [e]; exact ab_ad_new hc0) (fun u t9 H1 locs1 h1 hal _ hB hz hkk hV => ?_)
        obtain ⟨⟨z, z1, z2⟩, z3, z4⟩ := hB
        refine ab_nx hih hc q2 hr hn hs hk (ab_Ext.rf _ _) H1 ls st3 locs1 (a1.put hc.2.2.2.2.2.2.2.2.2.2.2.1 hcl (ab_RC_row.mpr (Or.inr ⟨g1, g2, z, by rw [← h1]; exact z1, fun j hj => ⟨by rw [z2 j hj]; exact hxt, ?_⟩⟩)) (by rw [← h1]; exact z3) (fun q hq => by rw [← h1]; exact z4 q hq)) ⟨lv, hlv, hlv2⟩ e5 hV
        rw [z2 j hj]
        show ab_RV _ _ _ _ (ab_nmV G v) x
        exact ab_RV.nm hs b1
    · cases hx
  · cases hx
theorem ab_st43 (hGd : ab_Gd Z) (hih : ab_Ok Z U F) (hc : ab_Cx Z U y X) (hs : ab_Sat ρ G) (hk : ab_Hk Z U y X G.1 ρ k) (hd : decode (ab_zCB Z y) pc = .ok (ins, len)) (hr : ∃ i, rest = ab_dr i (ab_zP Z y).1) (hn : ∀ e r, rest = e :: r → e.1 = pc + len) (hE : ab_E43 Z y ins len)
    (hx : ab_i43 (ab_zBS Z) S G h (fun S' h' => F y cuts false rest L S' G h' cn sn k) = true) : ab_Go Z U y X ρ G.1 pc S L h cn sn := by
  obtain ⟨rfl, f1, f2, i, rfl, w1, w2, w3, w4⟩ := hE
  unfold ab_i43 at hx
  split at hx
  · rename_i m0 j0 d i0 c S'
    split at hx
    · rename_i tz n ct tw n2 ct2 hcl hcl2
      obtain ⟨q1, q2⟩ := ab_an hx
      obtain ⟨q3, q4⟩ := ab_an q1
      obtain ⟨q5, q6⟩ := ab_an q3
      have et : tz = tw := ab_beq q5
      subst et
      obtain ⟨q7, q8⟩ := ab_an q6
      rcases ab_if q8 with ⟨_, q⟩ | ⟨q9, q8⟩
      · cases q
      rcases ab_if q8 with ⟨_, q⟩ | ⟨q10, q8⟩
      · cases q
      obtain ⟨p1, q4⟩ := ab_an q4
      obtain ⟨p2, q4⟩ := ab_an q4
      obtain ⟨p3, q4⟩ := ab_an q4
      obtain ⟨p4, p5⟩ := ab_an q4
      have hd0 : d ≠ 0 := Nat.ne_of_beq_eq_false q9
      have ht := ab_ble q7
      intro H ls st locs a1 a2 a3 a4
      obtain ⟨x, st1, rfl, ⟨rfl, b3, b4⟩, b5⟩ := a3.cons
      obtain ⟨x', st2, rfl, ⟨rfl, d3, d4⟩, c5⟩ := b5.cons
      obtain ⟨x2, st3, rfl, e1, e5⟩ := c5.cons
      have ex : x2 = .ref (ab_ad U.2.2.1 U.2.2.2 d) := e1
      subst ex
      obtain ⟨x3, st4, rfl, ⟨rfl, g3, g4⟩, g5⟩ := e5.cons
      obtain ⟨x4, st5, rfl, k1, k5⟩ := g5.cons
      have ex : x4 = .ref (ab_ad U.2.2.1 U.2.2.2 c) := k1
      subst ex
      rcases ab_RC_row.mp (a1.2.2 _ _ hcl).2 with ⟨g, _⟩ | ⟨s1, s2, zf, s3, s4⟩
      · omega
      rcases ab_RC_row.mp (a1.2.2 _ _ hcl2).2 with ⟨g, _⟩ | ⟨t1, t2, zg, t3, t4⟩
      · omega
      have vm := ab_iv_ok hs b4
      have vj := ab_iv_ok hs d4
      have vi := ab_iv_ok hs g4
      have p1 := (ab_le_iff _ _).mp p1
      have p2 := (ab_le_iff _ _).mp p2
      have p3 := (ab_le_iff _ _).mp p3
      have p4 := (ab_le_iff _ _).mp p4
      have p5 := (ab_le_iff _ _).mp p5
      have e9 : Int.ofNat n = (n : Int) := rfl
      have e8 : Int.ofNat n2 = (n2 : Int) := rfl
      obtain ⟨lv, hlv, hlv2⟩ := a2
      have hTW := hc.2.2.2.2.2.2.2.1
      have hK := hc.2.2.2.2.2.2.2.2.1.1
      have hR := hc.2.2.2.2.2.2.2.2.2.2.1
      have hwords := k5.words
      have hlen := ab_ble q8
      have hnw : nativeFrameWords "java/lang/System" "arraycopy" 5 ≤ 10 := by decide +kernel
      refine ab_copy hc.1 hc.2.1 (hlv.1.trans hc.2.2.1.symm) hc.2.2.2.1 (hTW _ w1) (hTW _ w2) (hTW _ w3) (hTW _ w4) hK ht s3 t3 (fun j hj => (s4 j hj).1) g3 d3 b3 (by omega) (by omega) (by omega) (by omega) (by omega) (by rw [hR.1]; exact f1) (by rw [hR.2.1]; omega) hd (fun H1 L9 r1 r2 r3 r4 => ?_)
      refine ab_nx hih hc q2 hr hn hs hk (ab_Ext.rf _ _) H1 ls st5 (locs ++ L9) (a1.put hc.2.2.2.2.2.2.2.2.2.2.2.1 hcl2 (ab_RC_row.mpr (Or.inr ⟨t1, t2, _, r1, fun j hj => ⟨?_, trivial⟩⟩)) r2 r3) ⟨lv, hlv, hlv2⟩ k5 ⟨by rw [r2]; exact a4.1, fun q h1 h2 => by
        rw [r3 q (fun e => h2 (by rw [e]; exact ab_ad_new hd0))]
        exact a4.2.1 q h1 h2, fun q hq => (List.mem_append.mp hq).elim (a4.2.2 q) (fun h => by rw [r4 q h]; exact ab_ad_new hd0)⟩
      unfold va_cpy
      split
      · exact (s4 _ (by omega)).1
      · exact (t4 j hj).1
    · cases hx
  · cases hx
end S5
end
section
/-! THE WALK IS SOUND. -/
noncomputable def ab_ri (Lg : ab_L) (r : Nat) : Nat := match ab_lk Lg r with
  | some (.inl (.inl (.inr i))) => i
  | some (.inl (.inr (.inr i))) => i
  | _ => 0
noncomputable def ab_mu (Gg : ab_G) (up i : Nat) (ρ : Nat → Int) : Nat := if up = 1 then ((ab_ivI Gg i).2 - ρ i).toNat else (ρ i - (ab_ivI Gg i).1).toNat
/-- what a row's entry says -/
def ab_EA (Z : ab_ZT) (y pc cl : Nat) (A : Int) (x1 x2 : Nat) (Xs : List Nat) (rest : List ab_E) : Prop := ∃ ins len, decode (ab_zCB Z y) pc = .ok (ins, len) ∧ (∀ e r, rest = e :: r → e.1 = pc + len) ∧ ab_EK Z y pc cl A x1 x2 Xs rest ins len ∧ ab_EL Z y pc cl A x1 x2 Xs ins len ∧ ab_EM Z y pc cl A x1 x2 Xs ins len ∧
  (cl = 40 → ab_EC Z y ins len x1 x2 A.toNat (match Xs with
      | [] => 0
      | mx :: _ => mx)) ∧ (cl = 33 → ab_E33 Z y pc x1 ins len) ∧ (cl = 35 → ab_E35 Z y x1 ins len) ∧ (cl = 42 → ab_E42 Z y x1 ins len) ∧ (cl = 43 → ab_E43 Z y ins len)
/-- the tables are right -/
def ab_Tb (Z : ab_ZT) : Prop := ab_Gd Z ∧ ∀ y i pc fl cl A x1 x2 Xs rest, ab_dr i (ab_zP Z y).1 = (pc, fl, cl, A, x1, x2, Xs) :: rest → ab_EA Z y pc cl A x1 x2 Xs rest
/-- what the last part brings of the library -/
def ab_Ax : Prop := ab_MAH ∧ ab_DDH
section RN
variable {Z : ab_ZT} {U : ab_UT} {F : ab_X} {y : Nat} {X : ab_XT} {ρ : Nat → Int} {cuts : List Nat} {pc : Nat} {A : Int} {x1 x2 cl : Nat} {Xs : List Nat} {pos rest : List ab_E} {L : ab_L} {S : List ab_V} {G : ab_G} {h : ab_H} {cn sn : Nat} {k : ab_K}
theorem ab_stp (hAx : ab_Ax) (hGd : ab_Gd Z) (hih : ab_Ok Z U F) (hc : ab_Cx Z U y X) (hs : ab_Sat ρ G) (hk : ab_Hk Z U y X G.1 ρ k) (hp : ∃ i, pos = ab_dr i (ab_zP Z y).1) (hpc : ∀ e r, pos = e :: r → e.1 = pc) (hr : ∃ i, rest = ab_dr i (ab_zP Z y).1) (hE : ab_EA Z y pc cl A x1 x2 Xs rest)
    (hx : ab_step (ab_zBS Z) (ab_zP Z) (ab_zNF Z) F y cuts pos pc cl A x1 x2 Xs rest L S G h cn sn k = true) : ab_Go Z U y X ρ G.1 pc S L h cn sn := by
  obtain ⟨ins, len, hd, hn, hK, hL, hM, hC, h33, h35, h42, h43⟩ := hE
  unfold ab_step at hx
  rcases ab_if hx with ⟨c0, hx⟩ | ⟨-, hx⟩
  · unfold ab_b1 at hx
    rcases ab_if hx with ⟨c1, hx⟩ | ⟨-, hx⟩
    · rcases ab_if hx with ⟨e, hx⟩ | ⟨n3, hx⟩
      · have e := ab_beq e; subst e; exact ab_st3 hih hc hs hk hd hr hn hK hx
      rcases ab_if hx with ⟨e, hx⟩ | ⟨n0, hx⟩
      · have e := ab_beq e; subst e; exact ab_st0 hih hc hs hk hd hr hn hK hx
      rcases ab_if hx with ⟨e, hx⟩ | ⟨n4, hx⟩
      · have e := ab_beq e; subst e; exact ab_st4 hih hc hs hk hd hr hn hK hx
      rcases ab_if hx with ⟨e, hx⟩ | ⟨n1, hx⟩
      · have e := ab_beq e; subst e; exact ab_st1 hih hc hs hk hd hr hn hK hx
      rcases ab_if hx with ⟨e, hx⟩ | ⟨n5, hx⟩
      · have e := ab_beq e; subst e; exact ab_st5 hih hc hs hk hd hr hn hK hx
      have := ab_ble c1
      have := Nat.ne_of_beq_eq_false n3
      have := Nat.ne_of_beq_eq_false n0
      have := Nat.ne_of_beq_eq_false n4
      have := Nat.ne_of_beq_eq_false n1
      have := Nat.ne_of_beq_eq_false n5
      have e : cl = 2 := by omega
      subst e
      exact ab_st2 hih hc hs hk hd hr hn hK hx
    rcases ab_if hx with ⟨c1, hx⟩ | ⟨-, hx⟩
    · rcases ab_if hx with ⟨e, hx⟩ | ⟨-, hx⟩
      · have e := ab_beq e; subst e; exact ab_st6 hih hc hs hk hd hr hn hK hx
      rcases ab_if hx with ⟨e, hx⟩ | ⟨-, hx⟩
      · have e := ab_beq e; subst e; exact ab_st7 hih hc hs hk hd hr hn hK hx
      rcases ab_if hx with ⟨e, hx⟩ | ⟨-, hx⟩
      · have e := ab_beq e; subst e; exact ab_st8 hih hc hs hk hd hr hn hK hx
      rcases ab_if hx with ⟨e, hx⟩ | ⟨-, hx⟩
      · have e := ab_beq e; subst e; exact ab_st9 hih hc hs hk hd hr hn hK hx
      rcases ab_if hx with ⟨e, hx⟩ | ⟨-, hx⟩
      · have e := ab_beq e; subst e; exact ab_st10 hih hc hs hk hd hr hn hK hx
      rcases ab_if hx with ⟨e, hx⟩ | ⟨-, hx⟩
      · have e := ab_beq e; subst e; exact ab_st11 hAx.2 hih hc hs hk hd hr hn hK hx
      rcases ab_if hx with ⟨e, hx⟩ | ⟨-, hx⟩
      · have e := ab_beq e; subst e; exact ab_st12 hih hc hs hk hd hr hn hK hx
      rcases ab_if hx with ⟨e, hx⟩ | ⟨-, hx⟩
      · have e := ab_beq e; subst e; exact ab_st13 hih hc hs hk hd hr hn hK hx
      rcases ab_if hx with ⟨e, hx⟩ | ⟨-, hx⟩
      · have e := ab_beq e; subst e; exact ab_st14 hih hc hs hk hd hr hn hK hx
      rcases ab_if hx with ⟨e, hx⟩ | ⟨-, hx⟩
      · have e := ab_beq e; subst e; exact ab_st15 hih hc hs hk hd hr hn hK hx
      cases hx
    rcases ab_if hx with ⟨e, hx⟩ | ⟨-, hx⟩
    · have e := ab_beq e; subst e; exact ab_st20 hih hc hs hk hd hK hx
    rcases ab_if hx with ⟨e, hx⟩ | ⟨-, hx⟩
    · have e := ab_beq e; subst e; exact ab_st21 hih hc hs hk hd hr hn hK hx
    rcases ab_if hx with ⟨e, hx⟩ | ⟨-, hx⟩
    · have e := ab_beq e; subst e; exact ab_st22 hih hc hs hk hd hr hn hK hx
    rcases ab_if hx with ⟨e, hx⟩ | ⟨-, hx⟩
    · have e := ab_beq e; subst e; exact ab_st23 hih hc hs hk hd hr hK hx
    rcases ab_if hx with ⟨e, hx⟩ | ⟨-, hx⟩
    · have e := ab_beq e; subst e; exact ab_st24 hih hc hs hk hd hK hx
    rcases ab_if hx with ⟨e, hx⟩ | ⟨-, hx⟩
    · have e := ab_beq e; subst e; exact ab_st25 hih hc hs hk hd hK hx
    cases hx
  · unfold ab_b2 at hx
    rcases ab_if hx with ⟨c1, hx⟩ | ⟨-, hx⟩
    · rcases ab_if hx with ⟨e, hx⟩ | ⟨-, hx⟩
      · have e := ab_beq e; subst e; exact ab_st30 hih hc hs hk hd hr hn hL hx
      rcases ab_if hx with ⟨e, hx⟩ | ⟨-, hx⟩
      · have e := ab_beq e; subst e; exact ab_st31 hih hc hs hk hd hr hn hL hx
      rcases ab_if hx with ⟨e, hx⟩ | ⟨-, hx⟩
      · have e := ab_beq e; subst e; exact ab_st32 hih hc hs hk hd hr hn hL hx
      rcases ab_if hx with ⟨e, hx⟩ | ⟨-, hx⟩
      · have e := ab_beq e; subst e; exact ab_st33 hGd hc hs hk hd (h33 rfl) hx
      rcases ab_if hx with ⟨e, hx⟩ | ⟨-, hx⟩
      · have e := ab_beq e; subst e; exact ab_st34 hih hc hs hk hd hr hn hL hx
      cases hx
    rcases ab_if hx with ⟨c1, hx⟩ | ⟨-, hx⟩
    · rcases ab_if hx with ⟨e, hx⟩ | ⟨-, hx⟩
      · have e := ab_beq e; subst e; exact ab_st38 hih hc hs hk hd hr hn hp hpc hL hx
      rcases ab_if hx with ⟨e, hx⟩ | ⟨-, hx⟩
      · have e := ab_beq e; subst e; exact ab_st39 hih hc hs hk hd hr hn hL hx
      rcases ab_if hx with ⟨e, hx⟩ | ⟨-, hx⟩
      · have e := ab_beq e; subst e; exact ab_st35 hAx.1 hGd hih hc hs hk hd hr hn (h35 rfl) hx
      rcases ab_if hx with ⟨e, hx⟩ | ⟨-, hx⟩
      · have e := ab_beq e; subst e; exact ab_st36 hih hc hs hk hd hr hn hL hx
      rcases ab_if hx with ⟨e, hx⟩ | ⟨-, hx⟩
      · have e := ab_beq e; subst e; exact ab_st37 hih hc hs hk hd hr hn hL hx
      cases hx
    rcases ab_if hx with ⟨e, hx⟩ | ⟨-, hx⟩
    · have e := ab_beq e; subst e; exact ab_st40 hGd hih hc hs hk hd hr hn (hC rfl) hx
    rcases ab_if hx with ⟨e, hx⟩ | ⟨-, hx⟩
    · have e := ab_beq e; subst e; exact ab_st51 hc hs hk hd hL hx
    rcases ab_if hx with ⟨e, hx⟩ | ⟨-, hx⟩
    · have e := ab_beq e; subst e; exact ab_st52 hc hs hk hd hL hx
    rcases ab_if hx with ⟨e, hx⟩ | ⟨-, hx⟩
    · have e := ab_beq e; subst e; exact ab_st50 hc hs hk hd hL hx
    rcases ab_if hx with ⟨e, hx⟩ | ⟨-, hx⟩
    · have e := ab_beq e; subst e; exact ab_st41 hih hc hs hk hd hr hn hL hx
    rcases ab_if hx with ⟨e, hx⟩ | ⟨-, hx⟩
    · have e := ab_beq e; subst e; exact ab_st42 hGd hih hc hs hk hd hr hn (h42 rfl) hx
    rcases ab_if hx with ⟨e, hx⟩ | ⟨-, hx⟩
    · have e := ab_beq e; subst e; exact ab_st43 hGd hih hc hs hk hd hr hn (h43 rfl) hx
    rcases ab_if hx with ⟨e, hx⟩ | ⟨-, hx⟩
    · have e := ab_beq e; subst e; exact ab_st44 hih hc hs hk hd hr hn hM hx
    cases hx
theorem ab_lp (hGd : ab_Gd Z) (hih : ab_Ok Z U F) (hc : ab_Cx Z U y X) (hs : ab_Sat ρ G) (hk : ab_Hk Z U y X G.1 ρ k) (hp : ∃ i, pos = ab_dr i (ab_zP Z y).1) (hpc : ∀ e r, pos = e :: r → e.1 = pc) {Bd : ab_B} {no : Bool}
    (hx : ab_loop (ab_zBS Z) (ab_zP Z) F y cuts pos pc Bd L G h cn sn k no = true) (hno : no = true → ab_Go Z U y X ρ G.1 pc [] L h cn sn) : ab_Go Z U y X ρ G.1 pc [] L h cn sn := by
  unfold ab_loop at hx
  obtain ⟨L1, G1, hx, hI1⟩ := ab_gl_ok (ab_Inv.rf hs) hx
  obtain ⟨hg, Gg, hx, hI⟩ := ab_gf_ok hI1 hx
  generalize ab_gd Bd.2.2.2.1 L1 = Lg at hx
  rcases ab_if hx with ⟨hm, hF⟩ | ⟨-, hx⟩
  · generalize hrr : Bd.2.2.2.2.1 = r at hF
    generalize huu : Bd.2.2.2.2.2.1 = up at hF
    generalize Bd.2.2.2.2.2.2 = ex at hF
    have oth : ∀ kd a S2 L2 (G2 : ab_G) h2 cn2 sn2 ρ2, ab_lx (ab_zP Z) F y cuts ex k kd a S2 L2 G2 h2 cn2 sn2 = true → ab_Ext G.1 ρ G2.1 ρ2 → ab_Sat ρ2 G2 → ab_Lf Z U y X ρ2 kd a S2 L2 G2.1 h2 cn2 sn2 := by
      intro kd a S2 L2 G2 h2 cn2 sn2 ρ2 q e1 e2
      unfold ab_lx at q
      rcases ab_if q with ⟨q1, q⟩ | ⟨-, q⟩
      · split at q
        · rename_i x hxl
          split at q
          · cases q
          · rename_i e0 r0 hdr
            obtain ⟨q3, q4⟩ := ab_an q
            have ek : kd = 2 := ab_beq q1
            subst ek
            exact hih y cuts false (e0 :: r0) L2 S2 G2 h2 cn2 sn2 k q4 ⟨x, hdr.symm⟩ X ρ2 hc e2 (hk.ext e1) a (fun e r he => by
              cases he
              exact ab_beq q3)
        · exact hk kd a S2 L2 G2 h2 cn2 sn2 ρ2 q e1 e2
      · exact hk kd a S2 L2 G2 h2 cn2 sn2 ρ2 q e1 e2
    have claim : ∀ (m : Nat) (ρ1 : Nat → Int) (H : Heap) (ls : Array Slot) (locs : List Loc), ab_mu Gg up (ab_ri Lg r) ρ1 ≤ m → ab_In U.1.1 U.1.2 U.2.1 (ab_zNF Z) (ab_zFT Z) (ab_zBS Z) U.2.2.1 U.2.2.2 (ab_zML Z y) G.1 ρ Gg Lg hg ρ1 ls H → va_S (ab_nA U) (ab_xs X).heap H locs → ab_W X H locs cn sn (F0 (ab_xm X) pc ls []) := by
      intro m
      induction m with
      | zero =>
        intro ρ1 H ls locs hmu hIn hV
        refine hih y (pc :: ab_exs ex cuts) true pos Lg [] Gg hg cn sn _ hF hp X ρ1 hc hIn.2.1 ?_ pc hpc H ls [] locs hIn.2.2.2 hIn.2.2.1 trivial hV
        intro kd a S2 L2 G2 h2 cn2 sn2 ρ2 hkk hE2 hs2
        rcases ab_if hkk with ⟨q1, q2⟩ | ⟨-, q2⟩
        · obtain ⟨q3, q4⟩ := ab_an q1
          obtain ⟨q5, q6⟩ := ab_an q2
          obtain ⟨q7, q8⟩ := ab_an q5
          obtain ⟨q9, q10⟩ := ab_an q8
          obtain ⟨q11, q12⟩ := ab_an q6
          have e1 : kd = 2 := ab_beq q3
          have e2 : a = pc := ab_beq q4
          have e3 : cn2 = cn := ab_beq q9
          have e4 : sn2 = sn := ab_beq q10
          subst e1; subst e2; subst e3; subst e4
          intro H' ls' st' locs' b1 b2 b3 b4
          exfalso
          obtain ⟨ρ3, hIn3, r1, r2⟩ := ab_mt_ok hGd.2.2.2 hs hI hs2 (hIn.1.tr hE2) q11 b2 b1
          obtain ⟨i, j, hij, hup⟩ := ab_rk_ok hs2 (fun i hi => by
            rcases hi with hi | hi
            · obtain ⟨x, -, hxv⟩ := hIn.2.2.1.get hi
              exact Nat.lt_of_lt_of_le hxv.2.2 hE2.1
            · obtain ⟨x, -, hxv⟩ := hIn.2.2.1.get hi
              exact Nat.lt_of_lt_of_le hxv.2.2 hE2.1) (fun s9 hs9 => by
            rcases hs9 with hs9 | hs9
            · obtain ⟨x, -, hxv⟩ := b2.get hs9
              exact hxv.2.2
            · obtain ⟨x, -, hxv⟩ := b2.get hs9
              exact hxv.2.2) q12
          have hlt : i < Gg.1 := by
            rcases hij with ⟨hi, -⟩ | ⟨hi, -⟩
            · obtain ⟨x, -, hxv⟩ := hIn.2.2.1.get hi
              exact hxv.2.2
            · obtain ⟨x, -, hxv⟩ := hIn.2.2.1.get hi
              exact hxv.2.2
          have hri : ab_ri Lg r = i := by
            unfold ab_ri
            rcases hij with ⟨hi, -⟩ | ⟨hi, -⟩ <;> rw [hi]
          have e5 : ρ3 i = ab_sv ρ2 j := by
            rcases hij with ⟨h5, h6⟩ | ⟨h5, h6⟩
            · exact r1 r i j h5 h6
            · exact r2 r i j h5 h6
          have e6 : ρ2 i = ρ1 i := hE2.2 i hlt
          have v1 : (ab_ivI Gg i).1 ≤ ρ1 i ∧ ρ1 i ≤ (ab_ivI Gg i).2 := ab_iv_ok hIn.2.1 (s := .inr i) hlt
          have v3 : (ab_ivI Gg i).1 ≤ ρ3 i ∧ ρ3 i ≤ (ab_ivI Gg i).2 := ab_iv_ok hIn3.2.1 (s := .inr i) hlt
          rw [hri] at hmu
          unfold ab_mu at hmu
          rcases hup with ⟨u1, u2⟩ | ⟨u1, u2⟩
          · rw [if_pos u1] at hmu
            omega
          · rw [if_neg u1] at hmu
            omega
        · exact oth kd a S2 L2 G2 h2 cn2 sn2 ρ2 q2 (hIn.1.tr hE2) hs2
      | succ m ih =>
        intro ρ1 H ls locs hmu hIn hV
        refine hih y (pc :: ab_exs ex cuts) true pos Lg [] Gg hg cn sn _ hF hp X ρ1 hc hIn.2.1 ?_ pc hpc H ls [] locs hIn.2.2.2 hIn.2.2.1 trivial hV
        intro kd a S2 L2 G2 h2 cn2 sn2 ρ2 hkk hE2 hs2
        rcases ab_if hkk with ⟨q1, q2⟩ | ⟨-, q2⟩
        · obtain ⟨q3, q4⟩ := ab_an q1
          obtain ⟨q5, q6⟩ := ab_an q2
          obtain ⟨q7, q8⟩ := ab_an q5
          obtain ⟨q9, q10⟩ := ab_an q8
          obtain ⟨q11, q12⟩ := ab_an q6
          have e1 : kd = 2 := ab_beq q3
          have e2 : a = pc := ab_beq q4
          have e3 : cn2 = cn := ab_beq q9
          have e4 : sn2 = sn := ab_beq q10
          subst e1; subst e2; subst e3; subst e4
          intro H' ls' st' locs' b1 b2 b3 b4
          have eS : S2 = [] := List.isEmpty_iff.mp q7
          subst eS
          have est := b3.nil
          subst est
          obtain ⟨ρ3, hIn3, r1, r2⟩ := ab_mt_ok hGd.2.2.2 hs hI hs2 (hIn.1.tr hE2) q11 b2 b1
          obtain ⟨i, j, hij, hup⟩ := ab_rk_ok hs2 (fun i hi => by
            rcases hi with hi | hi
            · obtain ⟨x, -, hxv⟩ := hIn.2.2.1.get hi
              exact Nat.lt_of_lt_of_le hxv.2.2 hE2.1
            · obtain ⟨x, -, hxv⟩ := hIn.2.2.1.get hi
              exact Nat.lt_of_lt_of_le hxv.2.2 hE2.1) (fun s9 hs9 => by
            rcases hs9 with hs9 | hs9
            · obtain ⟨x, -, hxv⟩ := b2.get hs9
              exact hxv.2.2
            · obtain ⟨x, -, hxv⟩ := b2.get hs9
              exact hxv.2.2) q12
          have hlt : i < Gg.1 := by
            rcases hij with ⟨hi, -⟩ | ⟨hi, -⟩
            · obtain ⟨x, -, hxv⟩ := hIn.2.2.1.get hi
              exact hxv.2.2
            · obtain ⟨x, -, hxv⟩ := hIn.2.2.1.get hi
              exact hxv.2.2
          have hri : ab_ri Lg r = i := by
            unfold ab_ri
            rcases hij with ⟨hi, -⟩ | ⟨hi, -⟩ <;> rw [hi]
          have e5 : ρ3 i = ab_sv ρ2 j := by
            rcases hij with ⟨h5, h6⟩ | ⟨h5, h6⟩
            · exact r1 r i j h5 h6
            · exact r2 r i j h5 h6
          have e6 : ρ2 i = ρ1 i := hE2.2 i hlt
          have v1 : (ab_ivI Gg i).1 ≤ ρ1 i ∧ ρ1 i ≤ (ab_ivI Gg i).2 := ab_iv_ok hIn.2.1 (s := .inr i) hlt
          have v3 : (ab_ivI Gg i).1 ≤ ρ3 i ∧ ρ3 i ≤ (ab_ivI Gg i).2 := ab_iv_ok hIn3.2.1 (s := .inr i) hlt
          refine ih ρ3 H' ls' locs' ?_ hIn3 b4
          rw [hri] at hmu ⊢
          unfold ab_mu at hmu ⊢
          rcases hup with ⟨u1, u2⟩ | ⟨u1, u2⟩
          · rw [if_pos u1] at hmu ⊢
            omega
          · rw [if_neg u1] at hmu ⊢
            omega
        · exact oth kd a S2 L2 G2 h2 cn2 sn2 ρ2 q2 (hIn.1.tr hE2) hs2
    intro H ls st locs a1 a2 a3 a4
    have est := a3.nil
    subst est
    obtain ⟨ρ1, hIn, -, -⟩ := ab_mt_ok hGd.2.2.2 hs hI hs (ab_Ext.rf _ _) hm a2 a1
    exact claim _ ρ1 H ls locs (Nat.le_refl _) hIn a4
  · exact hno hx
theorem ab_bd_ok (hAx : ab_Ax) (hT : ab_Tb Z) (hih : ab_Ok Z U F) : ab_Ok Z U (ab_body (ab_zBS Z) (ab_zP Z) (ab_zNF Z) (ab_zHS Z) F) := by
  intro y cuts fst pos L S G h cn sn k hx hp X ρ hc hs hk pc hpc
  cases pos with
  | nil => cases hx
  | cons e rest =>
    obtain ⟨pc0, fl, cl, A, x1, x2, Xs⟩ := e
    have epc : pc0 = pc := hpc _ _ rfl
    subst epc
    obtain ⟨i, hi⟩ := hp
    have hEA := hT.2 y i pc0 fl cl A x1 x2 Xs rest hi.symm
    have hr : ∃ i, rest = ab_dr i (ab_zP Z y).1 := ⟨i + 1, (ab_dr_succ i _ _ _ hi.symm).symm⟩
    have stp : ∀ {S : List ab_V}, ab_step (ab_zBS Z) (ab_zP Z) (ab_zNF Z) F y cuts ((pc0, fl, cl, A, x1, x2, Xs) :: rest) pc0 cl A x1 x2 Xs rest L S G h cn sn k = true → ab_Go Z U y X ρ G.1 pc0 S L h cn sn := fun q =>
      ab_stp hAx hT.1 hih hc hs hk ⟨i, hi⟩ hpc hr hEA q
    unfold ab_body at hx
    dsimp only at hx
    have hx' := hx
    rcases ab_if hx' with ⟨-, q⟩ | ⟨-, q⟩
    · exact stp q
    · rcases ab_if q with ⟨-, q⟩ | ⟨-, q⟩
      · exact hk 2 pc0 S L G h cn sn ρ q (ab_Ext.rf _ _) hs
      · split at q
        · exact ab_lp hT.1 hih hc hs hk ⟨i, hi⟩ hpc q stp
        · exact stp q
theorem ab_run_ok (hAx : ab_Ax) (hT : ab_Tb Z) : ∀ n, ab_Ok Z U (ab_run (ab_zBS Z) (ab_zP Z) (ab_zNF Z) (ab_zHS Z) n)
  | 0 => fun y cuts fst pos L S G h cn sn k hx => by cases hx
  | n + 1 => ab_bd_ok hAx hT (ab_run_ok hAx hT n)
end RN
end
section
/-! THE TABLES' CHECK: what a method's rows must be, by computing. -/
/-- lookups of a method's constant pool: 0 fields 1 ints 2 longs 3 the double 8 4 new 5 arrays 6 methods 7 nest mates' methods 8 Object's constructor 9 fills; of methods: 10 kind (0 static 1 by class 2 constructor) 11 how many parameters; 12 throws 13 copies -/
abbrev ab_KT : Type := (Nat → Nat → Option (Nat × Nat)) × (Nat → Nat → Option Int) × (Nat → Nat → Option Int) × (Nat → Nat → Bool) × (Nat → Nat → Option Nat) × (Nat → Nat → Option Nat) × (Nat → Nat → Option Nat) × (Nat → Nat → Option Nat) × (Nat → Nat → Bool) × (Nat → Nat → Option Nat) × (Nat → Nat) × (Nat → Nat) × (Nat → Nat → Nat → Bool) × (Nat → Nat → Bool)
abbrev ab_kF (K : ab_KT) := K.1
abbrev ab_kI (K : ab_KT) := K.2.1
abbrev ab_kL (K : ab_KT) := K.2.2.1
abbrev ab_kD (K : ab_KT) := K.2.2.2.1
abbrev ab_kN (K : ab_KT) := K.2.2.2.2.1
abbrev ab_kA (K : ab_KT) := K.2.2.2.2.2.1
abbrev ab_kM (K : ab_KT) := K.2.2.2.2.2.2.1
abbrev ab_kX (K : ab_KT) := K.2.2.2.2.2.2.2.1
abbrev ab_kO (K : ab_KT) := K.2.2.2.2.2.2.2.2.1
abbrev ab_kFl (K : ab_KT) := K.2.2.2.2.2.2.2.2.2.1
abbrev ab_kK (K : ab_KT) := K.2.2.2.2.2.2.2.2.2.2.1
abbrev ab_kP (K : ab_KT) := K.2.2.2.2.2.2.2.2.2.2.2.1
abbrev ab_kT (K : ab_KT) := K.2.2.2.2.2.2.2.2.2.2.2.2.1
abbrev ab_kC (K : ab_KT) := K.2.2.2.2.2.2.2.2.2.2.2.2.2
/-- what the lookups say is so -/
def ab_LKa (Z : ab_ZT) (K : ab_KT) : Prop :=
  (∀ y i ci f, ab_kF K y i = some (ci, f) → Cond.fieldLink (ab_zY Z y).cls i ((ab_zCT Z ci).2 f).1 ((ab_zCT Z ci).2 f).2.1 ((ab_zCT Z ci).2 f).2.2.1 ∈ ab_zTW Z ∧ f < ab_zNF Z ci ∧ ab_CL (ab_zcl Z) (ab_zNF Z) (ab_zFT Z) (ab_zTW Z) ci (ab_zCT Z ci).1 (ab_zCT Z ci).2) ∧
  (∀ y i z, ab_kI K y i = some z → Cond.constant (ab_zY Z y).cls i (Int32.ofInt z) ∈ ab_zTW Z) ∧
  (∀ y i z, ab_kL K y i = some z → Cond.constantLong (ab_zY Z y).cls i (Int64.ofInt z) ∈ ab_zTW Z) ∧
  (∀ y i, ab_kD K y i = true → Cond.constantDouble (ab_zY Z y).cls i 0x4020000000000000 ∈ ab_zTW Z) ∧
  (∀ y i ci, ab_kN K y i = some ci → Cond.classLink (ab_zY Z y).cls i (ab_zCT Z ci).1 ∈ ab_zTW Z ∧ Cond.instantiable (ab_zCT Z ci).1 (ab_zNF Z ci) ∈ ab_zTW Z ∧ Cond.initialized (ab_zCT Z ci).1 ∈ ab_zTW Z ∧ ab_CL (ab_zcl Z) (ab_zNF Z) (ab_zFT Z) (ab_zTW Z) ci (ab_zCT Z ci).1 (ab_zCT Z ci).2) ∧
  (∀ y i t, ab_kA K y i = some t → (t ≤ 1 → Cond.classLink (ab_zY Z y).cls i ("[" ++ (FieldType.array (ab_et t)).toString) ∈ ab_zTW Z) ∧ (t = 5 → Cond.classLink (ab_zY Z y).cls i (FieldType.array .long).toString ∈ ab_zTW Z)) ∧
  (∀ t, t ≤ 2 → Cond.arrayClass (ab_et t) ∈ ab_zTW Z)
def ab_LKb (Z : ab_ZT) (K : ab_KT) : Prop :=
  (∀ y i y2, ab_kM K y i = some y2 → Cond.methodLink (ab_zY Z y).cls i (ab_zY Z y2) ∈ ab_zTW Z) ∧
  (∀ y i y2, ab_kX K y i = some y2 → ab_zHT Z y2 = [] ∧ ∃ host, Cond.methodLinkNest (ab_zY Z y).cls i (ab_zY Z y2) host ∈ ab_zNW Z) ∧
  (∀ y i, ab_kO K y i = true → Cond.methodLink (ab_zY Z y).cls i Lib.objectInit ∈ ab_zTW Z) ∧ (Cond.instanceMethod Lib.objectInit ∈ ab_zTW Z ∧ Cond.code Lib.objectInit ⟨#[0xb1]⟩ 1 none ∈ ab_zTW Z) ∧
  (∀ y i t, ab_kFl K y i = some t → t ≤ 1 ∧ Cond.methodLink (ab_zY Z y).cls i (ab_fillN t) ∈ ab_zTW Z ∧ Cond.static (ab_fillN t) ∈ ab_zTW Z ∧ Cond.initialized "java/util/Arrays" ∈ ab_zTW Z ∧ Cond.code (ab_fillN t) (ab_fillB t) (ab_fillL t) none ∈ ab_zTW Z) ∧
  (∀ y2 i y, (ab_kM K y i = some y2 ∨ ab_kX K y i = some y2) → ab_MK Z y2 ∧ (parseMethodDescriptor (ab_zY Z y2).desc).map (fun d => d.parameters.length) = some (ab_kP K y2) ∧
    ((ab_kK K y2 = 0 ∧ Cond.static (ab_zY Z y2) ∈ ab_zTW Z) ∨ (ab_kK K y2 = 1 ∧ ab_zHT Z y2 = [] ∧ Cond.instanceMethod (ab_zY Z y2) ∈ ab_zTW Z ∧ Cond.selects (ab_zY Z y2).cls (ab_zY Z y2) (ab_zY Z y2) ∈ ab_zTW Z) ∨ (ab_kK K y2 = 2 ∧ ab_zHT Z y2 = [] ∧ ab_zRT Z y2 = none ∧ (ab_zY Z y2).name = "<init>" ∧ Cond.instanceMethod (ab_zY Z y2) ∈ ab_zTW Z))) ∧
  (∀ y i, ab_kC K y i = true → Cond.methodLink (ab_zY Z y).cls i arraycopyName ∈ ab_zTW Z ∧ Cond.native arraycopyName ∈ ab_zTW Z ∧ Cond.static arraycopyName ∈ ab_zTW Z ∧ Cond.initialized "java/lang/System" ∈ ab_zTW Z) ∧
  (∀ y pc x1 ins len, ab_kT K y pc x1 = true → decode (ab_zCB Z y) pc = .ok (ins, len) → ab_E33 Z y pc x1 ins len)
noncomputable def ab_same (a b : Int32) : Bool := decide (a = b)
noncomputable def ab_sameL (a b : Int64) : Bool := decide (a = b)
/-- a place by its number -/
noncomputable def ab_tgb (Z : ab_ZT) (y x : Nat) (tgt : Int) : Bool := match ab_dr x (ab_zP Z y).1 with
  | [] => true
  | e :: _ => ab_eq tgt (.ofNat e.1)
theorem ab_tgb_ok {Z : ab_ZT} {y x : Nat} {tgt : Int} (h : ab_tgb Z y x tgt = true) (t : Nat) (ht : tgt = (t : Int)) : ab_tg Z y x t := by
  intro e r he
  unfold ab_tgb at h
  rw [he] at h
  have := (ab_eq_iff _ _).mp h
  have e9 : Int.ofNat e.1 = (e.1 : Int) := rfl
  omega
noncomputable def ab_q0 (K : ab_KT) (y : Nat) (ins : Instr) (len : Nat) (A : Int) : Bool := bif ab_inR 0 A A then (match ins with
  | .iconst n => bif ab_same (Int32.ofInt n) (Int32.ofInt A) then Nat.beq len 1 else false
  | .bipush n => bif ab_same (Int8.ofInt n).toInt32 (Int32.ofInt A) then Nat.beq len 2 else false
  | .sipush n => bif ab_same (Int16.ofInt n).toInt32 (Int32.ofInt A) then Nat.beq len 3 else false
  | .ldc i => (match ab_kI K y i with
    | some z => bif ab_eq z A then Nat.beq len 2 else false
    | none => false)
  | .ldc_w i => (match ab_kI K y i with
    | some z => bif ab_eq z A then Nat.beq len 3 else false
    | none => false)
  | _ => false) else false
noncomputable def ab_q1 (K : ab_KT) (y : Nat) (ins : Instr) (len : Nat) (A : Int) : Bool := bif ab_inR 1 A A then (match ins with
  | .lconst n => bif ab_sameL (Int64.ofNat n.val) (Int64.ofInt A) then Nat.beq len 1 else false
  | .ldc2_w i => (match ab_kL K y i with
    | some z => bif ab_eq z A then Nat.beq len 3 else false
    | none => false)
  | _ => false) else false
noncomputable def ab_q2 (K : ab_KT) (y : Nat) (ins : Instr) (len : Nat) : Bool := match ins with
  | .ldc2_w i => bif ab_kD K y i then Nat.beq len 3 else false
  | _ => false
noncomputable def ab_q3 (ins : Instr) (len tg i : Nat) : Bool := match ins with
  | .iload_n k => bif Nat.beq tg 0 then (bif Nat.beq k.val i then Nat.beq len 1 else false) else false
  | .iload j => bif Nat.beq tg 0 then (bif Nat.beq j i then Nat.beq len 2 else false) else false
  | .lload_n k => bif Nat.beq tg 1 then (bif Nat.beq k.val i then Nat.beq len 1 else false) else false
  | .lload j => bif Nat.beq tg 1 then (bif Nat.beq j i then Nat.beq len 2 else false) else false
  | .aload_n k => bif Nat.beq tg 2 then (bif Nat.beq k.val i then Nat.beq len 1 else false) else false
  | .aload j => bif Nat.beq tg 2 then (bif Nat.beq j i then Nat.beq len 2 else false) else false
  | .dload_n k => bif Nat.beq tg 4 then (bif Nat.beq k.val i then Nat.beq len 1 else false) else false
  | _ => false
noncomputable def ab_q4 (ins : Instr) (len tg i nL : Nat) : Bool := match ins with
  | .istore_n k => bif Nat.beq tg 0 then (bif Nat.beq k.val i then (bif Nat.beq len 1 then Nat.ble (i + 1) nL else false) else false) else false
  | .istore j => bif Nat.beq tg 0 then (bif Nat.beq j i then (bif Nat.beq len 2 then Nat.ble (i + 1) nL else false) else false) else false
  | .lstore_n k => bif Nat.beq tg 1 then (bif Nat.beq k.val i then (bif Nat.beq len 1 then Nat.ble (i + 2) nL else false) else false) else false
  | .lstore j => bif Nat.beq tg 1 then (bif Nat.beq j i then (bif Nat.beq len 2 then Nat.ble (i + 2) nL else false) else false) else false
  | .astore_n k => bif Nat.beq tg 2 then (bif Nat.beq k.val i then (bif Nat.beq len 1 then Nat.ble (i + 1) nL else false) else false) else false
  | .astore j => bif Nat.beq tg 2 then (bif Nat.beq j i then (bif Nat.beq len 2 then Nat.ble (i + 1) nL else false) else false) else false
  | _ => false
noncomputable def ab_q5 (ins : Instr) (len x1 nL : Nat) (A : Int) : Bool := match ins with
  | .iinc j n => bif Nat.beq j x1 then (bif ab_eq n A then (bif Nat.beq len 3 then (bif Nat.ble (x1 + 1) nL then ab_inR 0 A A else false) else false) else false) else false
  | _ => false
noncomputable def ab_q6 (ins : Instr) (len kd op : Nat) : Bool := bif Nat.beq len 1 then (match ins with
  | .iadd => bif Nat.beq kd 0 then Nat.beq op 0 else false | .isub => bif Nat.beq kd 0 then Nat.beq op 1 else false | .imul => bif Nat.beq kd 0 then Nat.beq op 2 else false | .idiv => bif Nat.beq kd 0 then Nat.beq op 3 else false | .irem => bif Nat.beq kd 0 then Nat.beq op 4 else false
  | .iand => bif Nat.beq kd 0 then Nat.beq op 5 else false | .ior => bif Nat.beq kd 0 then Nat.beq op 6 else false | .ixor => bif Nat.beq kd 0 then Nat.beq op 7 else false | .ishl => bif Nat.beq kd 0 then Nat.beq op 8 else false | .ishr => bif Nat.beq kd 0 then Nat.beq op 9 else false
  | .ladd => bif Nat.beq kd 1 then Nat.beq op 0 else false | .lsub => bif Nat.beq kd 1 then Nat.beq op 1 else false | .lmul => bif Nat.beq kd 1 then Nat.beq op 2 else false | .ldiv => bif Nat.beq kd 1 then Nat.beq op 3 else false | .lrem => bif Nat.beq kd 1 then Nat.beq op 4 else false
  | .land => bif Nat.beq kd 1 then Nat.beq op 5 else false | .lor => bif Nat.beq kd 1 then Nat.beq op 6 else false | .lxor => bif Nat.beq kd 1 then Nat.beq op 7 else false
  | _ => false) else false
noncomputable def ab_q7 (ins : Instr) (len x1 : Nat) : Bool := bif Nat.beq len 1 then (match ins with
  | .ineg => Nat.beq x1 0
  | .lneg => Nat.beq x1 1
  | _ => false) else false
/-- the rows without a word more -/
noncomputable def ab_q8 (cl len : Nat) (ins : Instr) : Bool := bif Nat.beq len 1 then (match ins with
  | .i2l => Nat.beq cl 8 | .l2i => Nat.beq cl 9 | .i2d => Nat.beq cl 10 | .ddiv => Nat.beq cl 11 | .dup => Nat.beq cl 12 | .dup2 => Nat.beq cl 13 | .pop => Nat.beq cl 14 | .pop2 => Nat.beq cl 15
  | .arraylength => Nat.beq cl 37 | .aastore => Nat.beq cl 44
  | _ => false) else false
noncomputable def ab_cb (c : Nat) (d : ClassFile.Cond) : Bool := match d with
  | .eq => Nat.beq c 0 | .ne => Nat.beq c 1 | .lt => Nat.beq c 2 | .ge => Nat.beq c 3 | .gt => Nat.beq c 4 | .le => Nat.beq c 5
theorem ab_cb_ok {c : Nat} {d : ClassFile.Cond} (h : ab_cb c d = true) : c ≤ 5 ∧ d = ab_cn c := by
  unfold ab_cb at h
  cases d <;> (have e := ab_beq h; subst e; exact ⟨by omega, rfl⟩)
noncomputable def ab_q20 (Z : ab_ZT) (y pc len : Nat) (ins : Instr) (x1 : Nat) : Bool := bif Nat.beq len 3 then (match ins with
  | .goto off => bif ab_le 0 ((pc : Int) + off) then ab_tgb Z y x1 ((pc : Int) + off) else false
  | _ => false) else false
noncomputable def ab_q21 (Z : ab_ZT) (y pc len : Nat) (ins : Instr) (x1 x2 : Nat) : Bool := bif Nat.beq len 3 then (match ins with
  | .ifCond d off => bif ab_cb x1 d then (bif ab_le 0 ((pc : Int) + off) then ab_tgb Z y x2 ((pc : Int) + off) else false) else false
  | _ => false) else false
noncomputable def ab_q22 (Z : ab_ZT) (y pc len : Nat) (ins : Instr) (x1 x2 : Nat) : Bool := bif Nat.beq len 3 then (match ins with
  | .if_icmp d off => bif ab_cb x1 d then (bif ab_le 0 ((pc : Int) + off) then ab_tgb Z y x2 ((pc : Int) + off) else false) else false
  | _ => false) else false
noncomputable def ab_q23 (Z : ab_ZT) (y pc len : Nat) (ins : Instr) (x1 x2 : Nat) (rest : List ab_E) : Bool := bif Nat.beq len 1 then (match ins with
  | .lcmp => (match decode (ab_zCB Z y) (pc + 1) with
    | .ok (i2, l2) => bif ab_q21 Z y (pc + 1) l2 i2 x1 x2 then (match rest with
      | _ :: e3 :: _ => Nat.beq e3.1 (pc + 4)
      | _ => true) else false
    | .error _ => false)
  | _ => false) else false
noncomputable def ab_q24b (Z : ab_ZT) (y pc : Nat) (offs : Array Int) (Xs : List Nat) (j : Nat) : Bool := List.rec (motive := fun _ => Nat → Bool) (fun _ => true) (fun t _ r j => bif (match offs[j]? with
  | some off => bif ab_le 0 ((pc : Int) + off) then ab_tgb Z y t ((pc : Int) + off) else false
  | none => false) then r (j + 1) else false) Xs j
noncomputable def ab_q24 (Z : ab_ZT) (y pc : Nat) (ins : Instr) (A : Int) (x1 : Nat) (Xs : List Nat) : Bool := match ins with
  | .tableswitch dflt lo hi offs => bif ab_eq lo A then (bif ab_eq hi (A + .ofNat Xs.length - 1) then (bif ab_le 0 ((pc : Int) + dflt) then (bif ab_tgb Z y x1 ((pc : Int) + dflt) then ab_q24b Z y pc offs Xs 0 else false) else false) else false) else false
  | _ => false
noncomputable def ab_q25 (Z : ab_ZT) (y pc : Nat) (ins : Instr) (A : Int) (x1 : Nat) : Bool := match ins with
  | .lookupswitch dflt ps => bif (ps.toList.zip (ps.toList.drop 1)).all (fun (a, next) => a.1 < next.1) then (bif ab_le 0 ((pc : Int) + Op.lookupswitch.offset ps.toList dflt A) then ab_tgb Z y x1 ((pc : Int) + Op.lookupswitch.offset ps.toList dflt A) else false) else false
  | _ => false
noncomputable def ab_q30 (Z : ab_ZT) (K : ab_KT) (y len : Nat) (ins : Instr) (A : Int) (x1 x2 : Nat) : Bool := bif Nat.beq len 3 then (match ins with
  | .getfield i => (match ab_kF K y i with
    | some (ci, f) => bif Nat.beq ci x1 then (bif Nat.beq f x2 then Nat.beq A.toNat (ab_zFT Z x1 x2) else false) else false
    | none => false)
  | _ => false) else false
noncomputable def ab_q31 (Z : ab_ZT) (K : ab_KT) (y len : Nat) (ins : Instr) (A : Int) (x1 x2 : Nat) : Bool := bif Nat.beq len 3 then (match ins with
  | .putfield i => (match ab_kF K y i with
    | some (ci, f) => bif Nat.beq ci x1 then (bif Nat.beq f x2 then (bif Nat.beq A.toNat (ab_zFT Z x1 x2) then (bif ((ab_zCT Z x1).2 x2).2.2.2 then (bif decide ((ab_zY Z y).name = "<init>") then decide (((ab_zCT Z x1).2 x2).1 = (ab_zY Z y).cls) else false) else true) else false) else false) else false
    | none => false)
  | _ => false) else false
noncomputable def ab_q32 (K : ab_KT) (y len : Nat) (ins : Instr) (x1 : Nat) : Bool := bif Nat.beq len 3 then (match ins with
  | .new i => (match ab_kN K y i with
    | some ci => Nat.beq ci x1
    | none => false)
  | _ => false) else false
noncomputable def ab_q34 (len : Nat) (ins : Instr) (x1 : Nat) : Bool := bif Nat.beq len 2 then (match ins with
  | .newarray .int => Nat.beq x1 0
  | .newarray .long => Nat.beq x1 1
  | .newarray .boolean => Nat.beq x1 2
  | _ => false) else false
noncomputable def ab_q35 (K : ab_KT) (y len : Nat) (ins : Instr) (x1 : Nat) : Bool := bif Nat.beq len 4 then (match ins with
  | .multianewarray i 2 => (match ab_kA K y i with
    | some t => bif Nat.ble t 1 then Nat.beq x1 (t + 3) else false
    | none => false)
  | _ => false) else false
noncomputable def ab_q36 (K : ab_KT) (y len : Nat) (ins : Instr) : Bool := bif Nat.beq len 3 then (match ins with
  | .anewarray i => (match ab_kA K y i with
    | some t => Nat.beq t 5
    | none => false)
  | _ => false) else false
noncomputable def ab_q38 (len : Nat) (ins : Instr) (x1 : Nat) : Bool := bif Nat.beq len 1 then (match ins with
  | .iaload => Nat.beq x1 0 | .laload => Nat.beq x1 1 | .baload => Nat.beq x1 2 | .aaload => Nat.beq x1 3
  | _ => false) else false
noncomputable def ab_q39 (len : Nat) (ins : Instr) (x1 : Nat) : Bool := bif Nat.beq len 1 then (match ins with
  | .iastore => Nat.beq x1 0 | .lastore => Nat.beq x1 1 | .bastore => Nat.beq x1 2
  | _ => false) else false
noncomputable def ab_q41 (Z : ab_ZT) (K : ab_KT) (y len : Nat) (ins : Instr) : Bool := bif Nat.beq len 3 then (match ins with
  | .invokespecial i => bif ab_kO K y i then (bif Nat.ble 1 (ab_zFR Z y) then Nat.ble 52 (ab_zLO Z y) else false) else false
  | _ => false) else false
noncomputable def ab_q42 (Z : ab_ZT) (K : ab_KT) (y len : Nat) (ins : Instr) (x1 : Nat) : Bool := bif (bif Nat.beq len 3 then (bif Nat.ble 1 (ab_zFR Z y) then Nat.ble 24 (ab_zLO Z y) else false) else false) then (match ins with
  | .invokestatic i => (match ab_kFl K y i with
    | some t => Nat.beq t x1
    | none => false)
  | _ => false) else false
noncomputable def ab_q43 (Z : ab_ZT) (K : ab_KT) (y len : Nat) (ins : Instr) : Bool := bif (bif Nat.beq len 3 then (bif Nat.ble 1 (ab_zFR Z y) then Nat.ble 100 (ab_zLO Z y) else false) else false) then (match ins with
  | .invokestatic i => ab_kC K y i
  | _ => false) else false
/-- which method a call's instruction names: by class or nest mates -/
noncomputable def ab_lnk (K : ab_KT) (y i y2 : Nat) : Bool := match ab_kM K y i with
  | some z => Nat.beq z y2
  | none => (match ab_kX K y i with
    | some z => Nat.beq z y2
    | none => false)
noncomputable def ab_q40 (Z : ab_ZT) (K : ab_KT) (y len : Nat) (ins : Instr) (y2 n vc mx : Nat) : Bool :=
  bif (bif Nat.beq len 3 then (bif Nat.ble (ab_zFR Z y2 + 1) (ab_zFR Z y) then (bif Nat.ble (40 + (ab_zML Z y2 + 11) + ab_zLO Z y2) (ab_zLO Z y) then Nat.beq mx (ab_zML Z y2) else false) else false) else false) then (match ins with
  | .invokestatic i => bif ab_lnk K y i y2 then (bif Nat.beq (ab_kK K y2) 0 then Nat.beq n (ab_kP K y2) else false) else false
  | .invokevirtual i => bif ab_lnk K y i y2 then (bif Nat.beq (ab_kK K y2) 1 then (bif Nat.beq n (ab_kP K y2 + 1) then (match vc with
    | 0 => false
    | ci + 1 => bif Nat.ble (ci + 1) (ab_zNC Z) then decide ((ab_zCT Z ci).1 = (ab_zY Z y2).cls) else false) else false) else false) else false
  | .invokespecial i => bif ab_lnk K y i y2 then (bif Nat.beq (ab_kK K y2) 2 then (bif Nat.beq n (ab_kP K y2 + 1) then (match vc with
    | 0 => false
    | _ + 1 => true) else false) else false) else false
  | _ => false) else false
noncomputable def ab_q50 (Z : ab_ZT) (y cl x1 len : Nat) (ins : Instr) : Bool := bif Nat.beq len 1 then (match ins, ab_zRT Z y with
  | .return_, none => Nat.beq cl 50
  | .ireturn, some .int => bif Nat.beq cl 51 then Nat.beq x1 0 else false
  | .ireturn, some .boolean => Nat.beq cl 52
  | .lreturn, some .long => bif Nat.beq cl 51 then Nat.beq x1 1 else false
  | .areturn, some (.object _) => bif Nat.beq cl 51 then Nat.beq x1 2 else false
  | .areturn, some (.array _) => bif Nat.beq cl 51 then Nat.beq x1 2 else false
  | _, _ => false) else false
noncomputable def ab_qa (Z : ab_ZT) (K : ab_KT) (y pc cl : Nat) (A : Int) (x1 x2 : Nat) (Xs : List Nat) (rest : List ab_E) (ins : Instr) (len : Nat) : Bool :=
  bif Nat.ble cl 7 then
    (bif Nat.beq cl 3 then ab_q3 ins len x1 x2 else bif Nat.beq cl 0 then ab_q0 K y ins len A else bif Nat.beq cl 4 then ab_q4 ins len x1 x2 (ab_zML Z y) else bif Nat.beq cl 1 then ab_q1 K y ins len A else
    bif Nat.beq cl 5 then ab_q5 ins len x1 (ab_zML Z y) A else bif Nat.beq cl 6 then ab_q6 ins len x1 x2 else bif Nat.beq cl 7 then ab_q7 ins len x1 else ab_q2 K y ins len)
  else bif Nat.ble cl 24 then
    (bif Nat.ble cl 15 then ab_q8 cl len ins else bif Nat.beq cl 20 then ab_q20 Z y pc len ins x1 else bif Nat.beq cl 21 then ab_q21 Z y pc len ins x1 x2 else bif Nat.beq cl 22 then ab_q22 Z y pc len ins x1 x2 else
    bif Nat.beq cl 23 then ab_q23 Z y pc len ins x1 x2 rest else bif Nat.beq cl 24 then ab_q24 Z y pc ins A x1 Xs else false)
  else bif Nat.beq cl 25 then ab_q25 Z y pc ins A x1
  else
    bif Nat.beq cl 30 then ab_q30 Z K y len ins A x1 x2 else bif Nat.beq cl 31 then ab_q31 Z K y len ins A x1 x2 else bif Nat.beq cl 32 then ab_q32 K y len ins x1 else bif Nat.beq cl 33 then ab_kT K y pc x1 else
    bif Nat.beq cl 34 then ab_q34 len ins x1 else bif Nat.beq cl 35 then ab_q35 K y len ins x1 else bif Nat.beq cl 36 then ab_q36 K y len ins else bif Nat.beq cl 37 then ab_q8 cl len ins else bif Nat.beq cl 38 then ab_q38 len ins x1 else bif Nat.beq cl 39 then ab_q39 len ins x1 else
    bif Nat.beq cl 40 then ab_q40 Z K y len ins x1 x2 A.toNat (match Xs with
      | [] => 0
      | mx :: _ => mx) else
    bif Nat.beq cl 41 then ab_q41 Z K y len ins else bif Nat.beq cl 42 then ab_q42 Z K y len ins x1 else bif Nat.beq cl 44 then ab_q8 cl len ins else bif Nat.beq cl 43 then ab_q43 Z K y len ins else
    bif Nat.beq cl 99 then true else ab_q50 Z y cl x1 len ins
noncomputable def ab_ck1 (Z : ab_ZT) (K : ab_KT) (y : Nat) (e : ab_E) (rest : List ab_E) : Bool := match decode (ab_zCB Z y) e.1 with
  | .ok (ins, len) => bif (match rest with
    | [] => true
    | e2 :: _ => Nat.beq e2.1 (e.1 + len)) then ab_qa Z K y e.1 e.2.2.1 e.2.2.2.1 e.2.2.2.2.1 e.2.2.2.2.2.1 e.2.2.2.2.2.2 rest ins len else false
  | .error _ => false
noncomputable def ab_ckr (Z : ab_ZT) (K : ab_KT) (y : Nat) (l : List ab_E) : Bool := List.rec true (fun e rest r => bif ab_ck1 Z K y e rest then r else false) l
noncomputable def ab_ck (Z : ab_ZT) (K : ab_KT) (y : Nat) : Bool := ab_ckr Z K y (ab_zP Z y).1
end
section
/-! THE CHECK IS SOUND. -/
section CK
variable {Z : ab_ZT} {K : ab_KT} {y pc cl : Nat} {A : Int} {x1 x2 : Nat} {Xs : List Nat} {rest : List ab_E} {ins : Instr} {len : Nat}
theorem ab_inR_ok {k : Nat} {A : Int} (h : ab_inR k A A = true) : ab_R k A := ab_inR_iff k A A h
theorem ab_q0_ok (hA : ab_LKa Z K) (h : ab_q0 K y ins len A = true) : ab_EK Z y pc 0 A x1 x2 Xs rest ins len := by
  obtain ⟨h1, h2⟩ := ab_an h
  refine ⟨ab_inR_ok h1, ?_⟩
  split at h2
  · obtain ⟨q1, q2⟩ := ab_an h2
    exact Or.inl ⟨of_decide_eq_true q1, ab_beq q2⟩
  · obtain ⟨q1, q2⟩ := ab_an h2
    exact Or.inl ⟨of_decide_eq_true q1, ab_beq q2⟩
  · obtain ⟨q1, q2⟩ := ab_an h2
    exact Or.inl ⟨of_decide_eq_true q1, ab_beq q2⟩
  · rename_i i
    split at h2
    · rename_i z hz
      obtain ⟨q1, q2⟩ := ab_an h2
      have e := (ab_eq_iff _ _).mp q1
      subst e
      exact Or.inr ⟨i, Or.inl ⟨rfl, ab_beq q2⟩, hA.2.1 _ _ _ hz⟩
    · cases h2
  · rename_i i
    split at h2
    · rename_i z hz
      obtain ⟨q1, q2⟩ := ab_an h2
      have e := (ab_eq_iff _ _).mp q1
      subst e
      exact Or.inr ⟨i, Or.inr ⟨rfl, ab_beq q2⟩, hA.2.1 _ _ _ hz⟩
    · cases h2
  · cases h2
theorem ab_q1_ok (hA : ab_LKa Z K) (h : ab_q1 K y ins len A = true) : ab_EK Z y pc 1 A x1 x2 Xs rest ins len := by
  obtain ⟨h1, h2⟩ := ab_an h
  refine ⟨ab_inR_ok h1, ?_⟩
  split at h2
  · rename_i n
    obtain ⟨q1, q2⟩ := ab_an h2
    exact Or.inl ⟨n, rfl, ab_beq q2, of_decide_eq_true q1⟩
  · rename_i i
    split at h2
    · rename_i z hz
      obtain ⟨q1, q2⟩ := ab_an h2
      have e := (ab_eq_iff _ _).mp q1
      subst e
      exact Or.inr ⟨i, rfl, ab_beq q2, hA.2.2.1 _ _ _ hz⟩
    · cases h2
  · cases h2
theorem ab_q2_ok (hA : ab_LKa Z K) (h : ab_q2 K y ins len = true) : ab_EK Z y pc 2 A x1 x2 Xs rest ins len := by
  unfold ab_q2 at h
  split at h
  · rename_i i
    obtain ⟨q1, q2⟩ := ab_an h
    exact ⟨i, rfl, ab_beq q2, hA.2.2.2.1 _ _ q1⟩
  · cases h
theorem ab_q3_ok (h : ab_q3 ins len x1 x2 = true) : ab_EK Z y pc 3 A x1 x2 Xs rest ins len := by
  show ab_k3 ins len x1 x2
  unfold ab_q3 at h
  split at h
  all_goals first | (cases h; done) | (obtain ⟨q1, q2⟩ := ab_an h; obtain ⟨q3, q4⟩ := ab_an q2; exact ⟨ab_beq q1, ab_beq q3, ab_beq q4⟩)
theorem ab_q4_ok (h : ab_q4 ins len x1 x2 (ab_zML Z y) = true) : ab_EK Z y pc 4 A x1 x2 Xs rest ins len := by
  show ab_k4 ins len x1 x2 ∧ _
  unfold ab_q4 at h
  split at h
  all_goals first | (cases h; done) | (obtain ⟨q1, q2⟩ := ab_an h; obtain ⟨q3, q4⟩ := ab_an q2; obtain ⟨q5, q6⟩ := ab_an q4; refine ⟨⟨ab_beq q1, ab_beq q3, ab_beq q5⟩, ?_⟩; have e1 := ab_beq q1; have e2 := ab_ble q6; omega)
theorem ab_q5_ok (h : ab_q5 ins len x1 (ab_zML Z y) A = true) : ab_EK Z y pc 5 A x1 x2 Xs rest ins len := by
  unfold ab_q5 at h
  split at h
  · obtain ⟨q1, q2⟩ := ab_an h
    obtain ⟨q3, q4⟩ := ab_an q2
    obtain ⟨q5, q6⟩ := ab_an q4
    obtain ⟨q7, q8⟩ := ab_an q6
    exact ⟨by rw [ab_beq q1, (ab_eq_iff _ _).mp q3], ab_beq q5, ab_ble q7, ab_inR_ok q8⟩
  · cases h
theorem ab_q6_ok (h : ab_q6 ins len x1 x2 = true) : ab_EK Z y pc 6 A x1 x2 Xs rest ins len := by
  obtain ⟨h1, h2⟩ := ab_an h
  refine ⟨?_, ab_beq h1⟩
  split at h2
  all_goals first | (cases h2; done) | (obtain ⟨q1, q2⟩ := ab_an h2; exact ⟨ab_beq q1, ab_beq q2⟩)
theorem ab_q7_ok (h : ab_q7 ins len x1 = true) : ab_EK Z y pc 7 A x1 x2 Xs rest ins len := by
  obtain ⟨h1, h2⟩ := ab_an h
  refine ⟨ab_beq h1, ?_⟩
  split at h2
  · exact Or.inl ⟨rfl, ab_beq h2⟩
  · exact Or.inr ⟨rfl, ab_beq h2⟩
  · cases h2
theorem ab_q20_ok (h : ab_q20 Z y pc len ins x1 = true) : ab_EK Z y pc 20 A x1 x2 Xs rest ins len := by
  obtain ⟨h1, h2⟩ := ab_an h
  refine ⟨ab_beq h1, ?_⟩
  split at h2
  · rename_i off
    obtain ⟨q1, q2⟩ := ab_an h2
    have e := (ab_le_iff _ _).mp q1
    exact ⟨off, ((pc : Int) + off).toNat, rfl, by omega, ab_tgb_ok q2 _ (by omega)⟩
  · cases h2
theorem ab_q21_ok (h : ab_q21 Z y pc len ins x1 x2 = true) : len = 3 ∧ x1 ≤ 5 ∧ ∃ off tgt, ins = .ifCond (ab_cn x1) off ∧ (pc : Int) + off = (tgt : Nat) ∧ ab_tg Z y x2 tgt := by
  obtain ⟨h1, h2⟩ := ab_an h
  split at h2
  · rename_i d off
    obtain ⟨q0, q2⟩ := ab_an h2
    obtain ⟨q1, q2⟩ := ab_an q2
    obtain ⟨c1, c2⟩ := ab_cb_ok q0
    have e := (ab_le_iff _ _).mp q1
    exact ⟨ab_beq h1, c1, off, ((pc : Int) + off).toNat, by rw [c2], by omega, ab_tgb_ok q2 _ (by omega)⟩
  · cases h2
theorem ab_q22_ok (h : ab_q22 Z y pc len ins x1 x2 = true) : ab_EK Z y pc 22 A x1 x2 Xs rest ins len := by
  obtain ⟨h1, h2⟩ := ab_an h
  split at h2
  · rename_i d off
    obtain ⟨q0, q2⟩ := ab_an h2
    obtain ⟨q1, q2⟩ := ab_an q2
    obtain ⟨c1, c2⟩ := ab_cb_ok q0
    have e := (ab_le_iff _ _).mp q1
    exact ⟨ab_beq h1, c1, off, ((pc : Int) + off).toNat, by rw [c2], by omega, ab_tgb_ok q2 _ (by omega)⟩
  · cases h2
theorem ab_q23_ok (h : ab_q23 Z y pc len ins x1 x2 rest = true) : ab_EK Z y pc 23 A x1 x2 Xs rest ins len := by
  obtain ⟨h1, h2⟩ := ab_an h
  split at h2
  · split at h2
    · rename_i i2 l2 hd2
      obtain ⟨q1, q2⟩ := ab_an h2
      obtain ⟨e1, e2, off, tgt, e3, e4, e5⟩ := ab_q21_ok q1
      subst e1
      subst e3
      refine ⟨ab_beq h1, rfl, e2, off, tgt, hd2, e4, e5, fun e2 e3 r3 hr => ?_⟩
      subst hr
      exact ab_beq q2
    · cases h2
  · cases h2
theorem ab_q24b_ok {offs : Array Int} : ∀ {Xs : List Nat} {j : Nat}, ab_q24b Z y pc offs Xs j = true → ∀ i t, ab_at Xs i = some t → ∃ off t2, offs[j + i]? = some off ∧ (pc : Int) + off = (t2 : Nat) ∧ ab_tg Z y t t2
  | [], _, _, i, t, hi => by cases hi
  | t0 :: Xs, j, h, i, t, hi => by
    have h' : (bif (match offs[j]? with
      | some off => bif ab_le 0 ((pc : Int) + off) then ab_tgb Z y t0 ((pc : Int) + off) else false
      | none => false) then ab_q24b Z y pc offs Xs (j + 1) else false) = true := h
    obtain ⟨q1, q2⟩ := ab_an h'
    cases i with
    | zero =>
      have e0 : t0 = t := Option.some.inj hi
      subst e0
      cases ho : offs[j]? with
      | none => rw [ho] at q1; cases q1
      | some off =>
        rw [ho] at q1
        obtain ⟨q3, q4⟩ := ab_an q1
        have e := (ab_le_iff _ _).mp q3
        exact ⟨off, ((pc : Int) + off).toNat, by first | rfl | exact ho, by omega, ab_tgb_ok q4 _ (by omega)⟩
    | succ i =>
      obtain ⟨off, t2, o1, o2, o3⟩ := ab_q24b_ok q2 i t hi
      exact ⟨off, t2, by rw [show j + (i + 1) = j + 1 + i by omega]; exact o1, o2, o3⟩
theorem ab_q24_ok (h : ab_q24 Z y pc ins A x1 Xs = true) : ab_EK Z y pc 24 A x1 x2 Xs rest ins len := by
  unfold ab_q24 at h
  split at h
  · rename_i dflt lo hi offs
    obtain ⟨q1, q2⟩ := ab_an h
    obtain ⟨q3, q4⟩ := ab_an q2
    obtain ⟨q5, q6⟩ := ab_an q4
    obtain ⟨q7, q8⟩ := ab_an q6
    have e := (ab_le_iff _ _).mp q5
    refine ⟨dflt, lo, hi, offs, ((pc : Int) + dflt).toNat, rfl, (ab_eq_iff _ _).mp q1, (ab_eq_iff _ _).mp q3, by omega, ab_tgb_ok q7 _ (by omega), fun j t hj => ?_⟩
    have := ab_q24b_ok q8 j t hj
    rw [Nat.zero_add] at this
    exact this
  · cases h
theorem ab_q25_ok (h : ab_q25 Z y pc ins A x1 = true) : ab_EK Z y pc 25 A x1 x2 Xs rest ins len := by
  unfold ab_q25 at h
  split at h
  · rename_i dflt ps
    obtain ⟨q1, q2⟩ := ab_an h
    obtain ⟨q3, q4⟩ := ab_an q2
    have q5 := (ab_le_iff _ _).mp q3
    exact ⟨dflt, ps, _, ((pc : Int) + Op.lookupswitch.offset ps.toList dflt A).toNat, rfl, q1, rfl, by omega, ab_tgb_ok q4 _ (by omega)⟩
  · cases h
theorem ab_q30_ok (hA : ab_LKa Z K) (h : ab_q30 Z K y len ins A x1 x2 = true) : ab_EL Z y pc 30 A x1 x2 Xs ins len := by
  obtain ⟨h1, h2⟩ := ab_an h
  split at h2
  · rename_i i
    split at h2
    · rename_i ci f hf
      obtain ⟨q1, q2⟩ := ab_an h2
      obtain ⟨q3, q4⟩ := ab_an q2
      have e1 : ci = x1 := ab_beq q1
      have e2 : f = x2 := ab_beq q3
      subst e1
      subst e2
      obtain ⟨w1, w2, w3⟩ := hA.1 _ _ _ _ hf
      exact ⟨ab_beq h1, i, rfl, w1, w2, ab_beq q4, w3⟩
    · cases h2
  · cases h2
theorem ab_q31_ok (hA : ab_LKa Z K) (h : ab_q31 Z K y len ins A x1 x2 = true) : ab_EL Z y pc 31 A x1 x2 Xs ins len := by
  obtain ⟨h1, h2⟩ := ab_an h
  split at h2
  · rename_i i
    split at h2
    · rename_i ci f hf
      obtain ⟨q1, q2⟩ := ab_an h2
      obtain ⟨q3, q4⟩ := ab_an q2
      obtain ⟨q5, q6⟩ := ab_an q4
      have e1 : ci = x1 := ab_beq q1
      have e2 : f = x2 := ab_beq q3
      subst e1
      subst e2
      obtain ⟨w1, w2, w3⟩ := hA.1 _ _ _ _ hf
      refine ⟨ab_beq h1, i, rfl, w1, w2, ab_beq q5, w3, fun hq => ?_⟩
      rw [hq, cond_true] at q6
      obtain ⟨q7, q8⟩ := ab_an q6
      exact ⟨of_decide_eq_true q7, of_decide_eq_true q8⟩
    · cases h2
  · cases h2
theorem ab_q32_ok (hA : ab_LKa Z K) (h : ab_q32 K y len ins x1 = true) : ab_EL Z y pc 32 A x1 x2 Xs ins len := by
  obtain ⟨h1, h2⟩ := ab_an h
  split at h2
  · rename_i i
    split at h2
    · rename_i ci hf
      have e1 : ci = x1 := ab_beq h2
      subst e1
      obtain ⟨w1, w2, w3, w4⟩ := hA.2.2.2.2.1 _ _ _ hf
      exact ⟨ab_beq h1, i, rfl, w1, w2, w3, w4⟩
    · cases h2
  · cases h2
theorem ab_q34_ok (hA : ab_LKa Z K) (h : ab_q34 len ins x1 = true) : ab_EL Z y pc 34 A x1 x2 Xs ins len := by
  obtain ⟨h1, h2⟩ := ab_an h
  split at h2
  · have e := ab_beq h2; subst e; exact ⟨ab_beq h1, ⟨rfl, by omega⟩, hA.2.2.2.2.2.2 0 (by omega)⟩
  · have e := ab_beq h2; subst e; exact ⟨ab_beq h1, ⟨rfl, by omega⟩, hA.2.2.2.2.2.2 1 (by omega)⟩
  · have e := ab_beq h2; subst e; exact ⟨ab_beq h1, ⟨rfl, by omega⟩, hA.2.2.2.2.2.2 2 (by omega)⟩
  · cases h2
theorem ab_q35_ok (hA : ab_LKa Z K) (h : ab_q35 K y len ins x1 = true) : ab_E35 Z y x1 ins len := by
  obtain ⟨h1, h2⟩ := ab_an h
  split at h2
  · rename_i i
    split at h2
    · rename_i t ht
      obtain ⟨q1, q2⟩ := ab_an h2
      have e1 := ab_ble q1
      have e2 : x1 = t + 3 := ab_beq q2
      subst e2
      refine ⟨ab_beq h1, by omega, i, rfl, ?_, ?_⟩
      · rw [show t + 3 - 3 = t by omega]
        exact (hA.2.2.2.2.2.1 _ _ _ ht).1 e1
      · rw [show t + 3 - 3 = t by omega]
        exact hA.2.2.2.2.2.2 t (by omega)
    · cases h2
  · cases h2
theorem ab_q36_ok (hA : ab_LKa Z K) (h : ab_q36 K y len ins = true) : ab_EL Z y pc 36 A x1 x2 Xs ins len := by
  obtain ⟨h1, h2⟩ := ab_an h
  split at h2
  · rename_i i
    split at h2
    · rename_i t ht
      exact ⟨ab_beq h1, i, rfl, (hA.2.2.2.2.2.1 _ _ _ ht).2 (ab_beq h2)⟩
    · cases h2
  · cases h2
theorem ab_q38_ok (h : ab_q38 len ins x1 = true) : ab_EL Z y pc 38 A x1 x2 Xs ins len := by
  obtain ⟨h1, h2⟩ := ab_an h
  split at h2
  · have e := ab_beq h2; subst e; exact ⟨ab_beq h1, Or.inr ⟨by omega, rfl⟩⟩
  · have e := ab_beq h2; subst e; exact ⟨ab_beq h1, Or.inr ⟨by omega, rfl⟩⟩
  · have e := ab_beq h2; subst e; exact ⟨ab_beq h1, Or.inr ⟨by omega, rfl⟩⟩
  · have e := ab_beq h2; subst e; exact ⟨ab_beq h1, Or.inl ⟨rfl, rfl⟩⟩
  · cases h2
theorem ab_q39_ok (h : ab_q39 len ins x1 = true) : ab_EL Z y pc 39 A x1 x2 Xs ins len := by
  obtain ⟨h1, h2⟩ := ab_an h
  split at h2
  · have e := ab_beq h2; subst e; exact ⟨ab_beq h1, rfl⟩
  · have e := ab_beq h2; subst e; exact ⟨ab_beq h1, rfl⟩
  · have e := ab_beq h2; subst e; exact ⟨ab_beq h1, rfl⟩
  · cases h2
theorem ab_q41_ok (hB : ab_LKb Z K) (h : ab_q41 Z K y len ins = true) : ab_EL Z y pc 41 A x1 x2 Xs ins len := by
  obtain ⟨h1, h2⟩ := ab_an h
  split at h2
  · rename_i i
    obtain ⟨q1, q2⟩ := ab_an h2
    obtain ⟨q3, q4⟩ := ab_an q2
    exact ⟨ab_beq h1, ab_ble q3, ab_ble q4, i, rfl, hB.2.2.1 _ _ q1, hB.2.2.2.1.1, hB.2.2.2.1.2⟩
  · cases h2
theorem ab_q42_ok (hB : ab_LKb Z K) (h : ab_q42 Z K y len ins x1 = true) : ab_E42 Z y x1 ins len := by
  obtain ⟨h1, h2⟩ := ab_an h
  obtain ⟨h1, h3⟩ := ab_an h1
  obtain ⟨h3, h4⟩ := ab_an h3
  split at h2
  · rename_i i
    split at h2
    · rename_i t ht
      have e : t = x1 := ab_beq h2
      subst e
      obtain ⟨w1, w2⟩ := hB.2.2.2.2.1 _ _ _ ht
      exact ⟨ab_beq h1, w1, ab_ble h3, ab_ble h4, i, rfl, w2⟩
    · cases h2
  · cases h2
theorem ab_q43_ok (hB : ab_LKb Z K) (h : ab_q43 Z K y len ins = true) : ab_E43 Z y ins len := by
  obtain ⟨h1, h2⟩ := ab_an h
  obtain ⟨h1, h3⟩ := ab_an h1
  obtain ⟨h3, h4⟩ := ab_an h3
  split at h2
  · rename_i i
    exact ⟨ab_beq h1, ab_ble h3, ab_ble h4, i, rfl, hB.2.2.2.2.2.2.1 _ _ h2⟩
  · cases h2
theorem ab_lnk_ok {i y2 : Nat} (h : ab_lnk K y i y2 = true) : ab_kM K y i = some y2 ∨ ab_kX K y i = some y2 := by
  unfold ab_lnk at h
  cases hm : ab_kM K y i with
  | some z =>
    rw [hm] at h
    rw [show z = y2 from ab_beq h]
    exact Or.inl rfl
  | none =>
    rw [hm] at h
    dsimp only at h
    cases hx : ab_kX K y i with
    | some z =>
      rw [hx] at h
      rw [show z = y2 from ab_beq h]
      exact Or.inr rfl
    | none => rw [hx] at h; cases h
theorem ab_q40_ok (hB : ab_LKb Z K) (hCL : ∀ ci, ci < ab_zNC Z → ab_CL (ab_zcl Z) (ab_zNF Z) (ab_zFT Z) (ab_zTW Z) ci (ab_zCT Z ci).1 (ab_zCT Z ci).2) {y2 n vc mx : Nat} (h : ab_q40 Z K y len ins y2 n vc mx = true) : ab_EC Z y ins len y2 n vc mx := by
  obtain ⟨h1, h2⟩ := ab_an h
  obtain ⟨q1, q2⟩ := ab_an h1
  obtain ⟨q3, q4⟩ := ab_an q2
  obtain ⟨q5, q6⟩ := ab_an q4
  have base : ∀ i, ab_lnk K y i y2 = true → ab_MK Z y2 ∧ (parseMethodDescriptor (ab_zY Z y2).desc).map (fun d => d.parameters.length) = some (ab_kP K y2) ∧ (((ab_kK K y2 = 0 ∧ Cond.static (ab_zY Z y2) ∈ ab_zTW Z) ∨ (ab_kK K y2 = 1 ∧ ab_zHT Z y2 = [] ∧ Cond.instanceMethod (ab_zY Z y2) ∈ ab_zTW Z ∧ Cond.selects (ab_zY Z y2).cls (ab_zY Z y2) (ab_zY Z y2) ∈ ab_zTW Z) ∨ (ab_kK K y2 = 2 ∧ ab_zHT Z y2 = [] ∧ ab_zRT Z y2 = none ∧ (ab_zY Z y2).name = "<init>" ∧ Cond.instanceMethod (ab_zY Z y2) ∈ ab_zTW Z))) ∧
      (Cond.methodLink (ab_zY Z y).cls i (ab_zY Z y2) ∈ ab_zTW Z ∨ (ab_zHT Z y2 = [] ∧ ∃ host, Cond.methodLinkNest (ab_zY Z y).cls i (ab_zY Z y2) host ∈ ab_zNW Z)) := fun i hi => by
    have hl := ab_lnk_ok hi
    obtain ⟨w1, w2, w3⟩ := hB.2.2.2.2.2.1 _ _ _ hl
    refine ⟨w1, w2, w3, ?_⟩
    rcases hl with hl | hl
    · exact Or.inl (hB.1 _ _ _ hl)
    · exact Or.inr (hB.2.1 _ _ _ hl)
  split at h2
  · rename_i i
    obtain ⟨g1, g2⟩ := ab_an h2
    obtain ⟨g3, g4⟩ := ab_an g2
    have hk : ab_kK K y2 = 0 := ab_beq g3
    obtain ⟨w1, w2, w3, w4⟩ := base i g1
    refine ⟨ab_beq q1, ab_ble q3, ab_ble q5, ab_beq q6, w1, i, _, w2, Or.inl ⟨rfl, ?_, ab_beq g4, w4⟩⟩
    rcases w3 with ⟨_, w⟩ | ⟨e, _⟩ | ⟨e, _⟩
    · exact w
    · omega
    · omega
  · rename_i i
    obtain ⟨g1, g2⟩ := ab_an h2
    obtain ⟨g3, g4⟩ := ab_an g2
    obtain ⟨g5, g6⟩ := ab_an g4
    have hk : ab_kK K y2 = 1 := ab_beq g3
    obtain ⟨w1, w2, w3, w4⟩ := base i g1
    cases vc with
    | zero => cases g6
    | succ ci =>
      obtain ⟨g7, g8⟩ := ab_an g6
      have hcl := hCL ci (ab_ble g7)
      have ec : (ab_zCT Z ci).1 = (ab_zY Z y2).cls := of_decide_eq_true g8
      rw [ec] at hcl
      rcases w3 with ⟨e, _⟩ | ⟨_, z1, z2, z3⟩ | ⟨e, _⟩
      · omega
      · refine ⟨ab_beq q1, ab_ble q3, ab_ble q5, ab_beq q6, w1, i, _, w2, Or.inr (Or.inl ⟨z1, rfl, z2, z3, ab_beq g5, ⟨ci, rfl, hcl⟩, ?_⟩)⟩
        rcases w4 with w | ⟨_, w⟩
        · exact Or.inl w
        · exact Or.inr w
      · omega
  · rename_i i
    obtain ⟨g1, g2⟩ := ab_an h2
    obtain ⟨g3, g4⟩ := ab_an g2
    obtain ⟨g5, g6⟩ := ab_an g4
    have hk : ab_kK K y2 = 2 := ab_beq g3
    obtain ⟨w1, w2, w3, w4⟩ := base i g1
    cases vc with
    | zero => cases g6
    | succ ci =>
      rcases w3 with ⟨e, _⟩ | ⟨e, _⟩ | ⟨_, z1, z2, z3, z4⟩
      · omega
      · omega
      · refine ⟨ab_beq q1, ab_ble q3, ab_ble q5, ab_beq q6, w1, i, _, w2, Or.inr (Or.inr ⟨z1, ⟨ci, rfl⟩, z2, rfl, z3, z4, ab_beq g5, ?_⟩)⟩
        rcases w4 with w | ⟨_, w⟩
        · exact Or.inl w
        · exact Or.inr w
  · cases h2
theorem ab_q50_ok (h : ab_q50 Z y cl x1 len ins = true) : (cl = 50 ∨ cl = 51 ∨ cl = 52) ∧ ab_EL Z y pc cl A x1 x2 Xs ins len := by
  obtain ⟨h1, h2⟩ := ab_an h
  have hl : len = 1 := ab_beq h1
  split at h2
  · rename_i hr
    have e := ab_beq h2; subst e
    exact ⟨Or.inl rfl, hl, rfl, hr⟩
  · rename_i hr
    obtain ⟨q1, q2⟩ := ab_an h2
    have e := ab_beq q1; subst e
    exact ⟨Or.inr (Or.inl rfl), hl, Or.inl ⟨rfl, ab_beq q2, hr⟩⟩
  · rename_i hr
    have e := ab_beq h2; subst e
    exact ⟨Or.inr (Or.inr rfl), hl, rfl, hr⟩
  · rename_i hr
    obtain ⟨q1, q2⟩ := ab_an h2
    have e := ab_beq q1; subst e
    exact ⟨Or.inr (Or.inl rfl), hl, Or.inr (Or.inl ⟨rfl, ab_beq q2, hr⟩)⟩
  · rename_i hr
    obtain ⟨q1, q2⟩ := ab_an h2
    have e := ab_beq q1; subst e
    exact ⟨Or.inr (Or.inl rfl), hl, Or.inr (Or.inr ⟨rfl, ab_beq q2, _, hr, Or.inl ⟨_, rfl⟩⟩)⟩
  · rename_i hr
    obtain ⟨q1, q2⟩ := ab_an h2
    have e := ab_beq q1; subst e
    exact ⟨Or.inr (Or.inl rfl), hl, Or.inr (Or.inr ⟨rfl, ab_beq q2, _, hr, Or.inr ⟨_, rfl⟩⟩)⟩
  · cases h2
theorem ab_q8_ok (h : ab_q8 cl len ins = true) : (cl ≠ 40 ∧ cl ≠ 33 ∧ cl ≠ 35 ∧ cl ≠ 42 ∧ cl ≠ 43) ∧ ab_EK Z y pc cl A x1 x2 Xs rest ins len ∧ ab_EL Z y pc cl A x1 x2 Xs ins len ∧ ab_EM Z y pc cl A x1 x2 Xs ins len := by
  obtain ⟨h1, h2⟩ := ab_an h
  have hl : len = 1 := ab_beq h1
  subst hl
  split at h2
  · have e := ab_beq h2; subst e; exact ⟨by omega, ⟨rfl, rfl⟩, trivial, trivial⟩
  · have e := ab_beq h2; subst e; exact ⟨by omega, ⟨rfl, rfl⟩, trivial, trivial⟩
  · have e := ab_beq h2; subst e; exact ⟨by omega, ⟨rfl, rfl⟩, trivial, trivial⟩
  · have e := ab_beq h2; subst e; exact ⟨by omega, ⟨rfl, rfl⟩, trivial, trivial⟩
  · have e := ab_beq h2; subst e; exact ⟨by omega, ⟨rfl, rfl⟩, trivial, trivial⟩
  · have e := ab_beq h2; subst e; exact ⟨by omega, ⟨rfl, rfl⟩, trivial, trivial⟩
  · have e := ab_beq h2; subst e; exact ⟨by omega, ⟨rfl, rfl⟩, trivial, trivial⟩
  · have e := ab_beq h2; subst e; exact ⟨by omega, ⟨rfl, rfl⟩, trivial, trivial⟩
  · have e := ab_beq h2; subst e; exact ⟨by omega, trivial, ⟨rfl, rfl⟩, trivial⟩
  · have e := ab_beq h2; subst e; exact ⟨by omega, trivial, trivial, ⟨rfl, rfl⟩⟩
  · cases h2
theorem ab_EA_mk (hd : decode (ab_zCB Z y) pc = .ok (ins, len)) (hn : ∀ e r, rest = e :: r → e.1 = pc + len) (hK : ab_EK Z y pc cl A x1 x2 Xs rest ins len) (hL : ab_EL Z y pc cl A x1 x2 Xs ins len) (hM : ab_EM Z y pc cl A x1 x2 Xs ins len)
    (hne : cl ≠ 40 ∧ cl ≠ 33 ∧ cl ≠ 35 ∧ cl ≠ 42 ∧ cl ≠ 43) : ab_EA Z y pc cl A x1 x2 Xs rest := ⟨ins, len, hd, hn, hK, hL, hM, fun q => absurd q hne.1, fun q => absurd q hne.2.1, fun q => absurd q hne.2.2.1, fun q => absurd q hne.2.2.2.1, fun q => absurd q hne.2.2.2.2⟩
theorem ab_qa_ok (hA : ab_LKa Z K) (hB : ab_LKb Z K) (hCL : ∀ ci, ci < ab_zNC Z → ab_CL (ab_zcl Z) (ab_zNF Z) (ab_zFT Z) (ab_zTW Z) ci (ab_zCT Z ci).1 (ab_zCT Z ci).2) (hd : decode (ab_zCB Z y) pc = .ok (ins, len)) (hn : ∀ e r, rest = e :: r → e.1 = pc + len)
    (h : ab_qa Z K y pc cl A x1 x2 Xs rest ins len = true) : ab_EA Z y pc cl A x1 x2 Xs rest := by
  unfold ab_qa at h
  rcases ab_if h with ⟨c0, h⟩ | ⟨-, h⟩
  · rcases ab_if h with ⟨e, h⟩ | ⟨n3, h⟩
    · have e := ab_beq e; subst e; exact ab_EA_mk hd hn (ab_q3_ok h) trivial trivial (by omega)
    rcases ab_if h with ⟨e, h⟩ | ⟨n0, h⟩
    · have e := ab_beq e; subst e; exact ab_EA_mk hd hn (ab_q0_ok hA h) trivial trivial (by omega)
    rcases ab_if h with ⟨e, h⟩ | ⟨n4, h⟩
    · have e := ab_beq e; subst e; exact ab_EA_mk hd hn (ab_q4_ok h) trivial trivial (by omega)
    rcases ab_if h with ⟨e, h⟩ | ⟨n1, h⟩
    · have e := ab_beq e; subst e; exact ab_EA_mk hd hn (ab_q1_ok hA h) trivial trivial (by omega)
    rcases ab_if h with ⟨e, h⟩ | ⟨n5, h⟩
    · have e := ab_beq e; subst e; exact ab_EA_mk hd hn (ab_q5_ok h) trivial trivial (by omega)
    rcases ab_if h with ⟨e, h⟩ | ⟨n6, h⟩
    · have e := ab_beq e; subst e; exact ab_EA_mk hd hn (ab_q6_ok h) trivial trivial (by omega)
    rcases ab_if h with ⟨e, h⟩ | ⟨n7, h⟩
    · have e := ab_beq e; subst e; exact ab_EA_mk hd hn (ab_q7_ok h) trivial trivial (by omega)
    have := ab_ble c0
    have := Nat.ne_of_beq_eq_false n3
    have := Nat.ne_of_beq_eq_false n0
    have := Nat.ne_of_beq_eq_false n4
    have := Nat.ne_of_beq_eq_false n1
    have := Nat.ne_of_beq_eq_false n5
    have := Nat.ne_of_beq_eq_false n6
    have := Nat.ne_of_beq_eq_false n7
    have e : cl = 2 := by omega
    subst e
    exact ab_EA_mk hd hn (ab_q2_ok hA h) trivial trivial (by omega)
  rcases ab_if h with ⟨c0, h⟩ | ⟨-, h⟩
  · rcases ab_if h with ⟨e, h⟩ | ⟨n3, h⟩
    · obtain ⟨g1, g2, g3, g4⟩ := ab_q8_ok (Z := Z) (y := y) (pc := pc) (A := A) (x1 := x1) (x2 := x2) (Xs := Xs) (rest := rest) h
      exact ab_EA_mk hd hn g2 g3 g4 g1
    rcases ab_if h with ⟨e, h⟩ | ⟨-, h⟩
    · have e := ab_beq e; subst e; exact ab_EA_mk hd hn (ab_q20_ok h) trivial trivial (by omega)
    rcases ab_if h with ⟨e, h⟩ | ⟨-, h⟩
    · have e := ab_beq e; subst e; exact ab_EA_mk hd hn (ab_q21_ok h) trivial trivial (by omega)
    rcases ab_if h with ⟨e, h⟩ | ⟨-, h⟩
    · have e := ab_beq e; subst e; exact ab_EA_mk hd hn (ab_q22_ok h) trivial trivial (by omega)
    rcases ab_if h with ⟨e, h⟩ | ⟨-, h⟩
    · have e := ab_beq e; subst e; exact ab_EA_mk hd hn (ab_q23_ok h) trivial trivial (by omega)
    rcases ab_if h with ⟨e, h⟩ | ⟨-, h⟩
    · have e := ab_beq e; subst e; exact ab_EA_mk hd hn (ab_q24_ok h) trivial trivial (by omega)
    cases h
  rcases ab_if h with ⟨e, h⟩ | ⟨-, h⟩
  · have e := ab_beq e; subst e; exact ab_EA_mk hd hn (ab_q25_ok h) trivial trivial (by omega)
  rcases ab_if h with ⟨e, h⟩ | ⟨-, h⟩
  · have e := ab_beq e; subst e; exact ab_EA_mk hd hn trivial (ab_q30_ok hA h) trivial (by omega)
  rcases ab_if h with ⟨e, h⟩ | ⟨-, h⟩
  · have e := ab_beq e; subst e; exact ab_EA_mk hd hn trivial (ab_q31_ok hA h) trivial (by omega)
  rcases ab_if h with ⟨e, h⟩ | ⟨-, h⟩
  · have e := ab_beq e; subst e; exact ab_EA_mk hd hn trivial (ab_q32_ok hA h) trivial (by omega)
  rcases ab_if h with ⟨e, h⟩ | ⟨-, h⟩
  · have e := ab_beq e; subst e
    exact ⟨ins, len, hd, hn, trivial, trivial, trivial, fun q => (by cases q), fun _ => hB.2.2.2.2.2.2.2 _ _ _ _ _ h hd, fun q => (by cases q), fun q => (by cases q), fun q => (by cases q)⟩
  rcases ab_if h with ⟨e, h⟩ | ⟨-, h⟩
  · have e := ab_beq e; subst e; exact ab_EA_mk hd hn trivial (ab_q34_ok hA h) trivial (by omega)
  rcases ab_if h with ⟨e, h⟩ | ⟨-, h⟩
  · have e := ab_beq e; subst e
    exact ⟨ins, len, hd, hn, trivial, trivial, trivial, fun q => (by cases q), fun q => (by cases q), fun _ => ab_q35_ok hA h, fun q => (by cases q), fun q => (by cases q)⟩
  rcases ab_if h with ⟨e, h⟩ | ⟨-, h⟩
  · have e := ab_beq e; subst e; exact ab_EA_mk hd hn trivial (ab_q36_ok hA h) trivial (by omega)
  rcases ab_if h with ⟨e, h⟩ | ⟨-, h⟩
  · obtain ⟨g1, g2, g3, g4⟩ := ab_q8_ok (Z := Z) (y := y) (pc := pc) (A := A) (x1 := x1) (x2 := x2) (Xs := Xs) (rest := rest) h
    exact ab_EA_mk hd hn g2 g3 g4 g1
  rcases ab_if h with ⟨e, h⟩ | ⟨-, h⟩
  · have e := ab_beq e; subst e; exact ab_EA_mk hd hn trivial (ab_q38_ok h) trivial (by omega)
  rcases ab_if h with ⟨e, h⟩ | ⟨-, h⟩
  · have e := ab_beq e; subst e; exact ab_EA_mk hd hn trivial (ab_q39_ok h) trivial (by omega)
  rcases ab_if h with ⟨e, h⟩ | ⟨-, h⟩
  · have e := ab_beq e; subst e
    exact ⟨ins, len, hd, hn, trivial, trivial, trivial, fun _ => ab_q40_ok hB hCL h, fun q => (by cases q), fun q => (by cases q), fun q => (by cases q), fun q => (by cases q)⟩
  rcases ab_if h with ⟨e, h⟩ | ⟨-, h⟩
  · have e := ab_beq e; subst e; exact ab_EA_mk hd hn trivial (ab_q41_ok hB h) trivial (by omega)
  rcases ab_if h with ⟨e, h⟩ | ⟨-, h⟩
  · have e := ab_beq e; subst e
    exact ⟨ins, len, hd, hn, trivial, trivial, trivial, fun q => (by cases q), fun q => (by cases q), fun q => (by cases q), fun _ => ab_q42_ok hB h, fun q => (by cases q)⟩
  rcases ab_if h with ⟨e, h⟩ | ⟨-, h⟩
  · obtain ⟨g1, g2, g3, g4⟩ := ab_q8_ok (Z := Z) (y := y) (pc := pc) (A := A) (x1 := x1) (x2 := x2) (Xs := Xs) (rest := rest) h
    exact ab_EA_mk hd hn g2 g3 g4 g1
  rcases ab_if h with ⟨e, h⟩ | ⟨-, h⟩
  · have e := ab_beq e; subst e
    exact ⟨ins, len, hd, hn, trivial, trivial, trivial, fun q => (by cases q), fun q => (by cases q), fun q => (by cases q), fun q => (by cases q), fun _ => ab_q43_ok hB h⟩
  rcases ab_if h with ⟨e, h⟩ | ⟨-, h⟩
  · have e := ab_beq e; subst e; exact ab_EA_mk hd hn trivial trivial trivial (by omega)
  · obtain ⟨g1, g2⟩ := ab_q50_ok (pc := pc) (A := A) (x2 := x2) (Xs := Xs) h
    rcases g1 with g | g | g <;> subst g <;> exact ab_EA_mk hd hn trivial g2 trivial (by omega)
theorem ab_ckr_at : ∀ {l : List ab_E}, ab_ckr Z K y l = true → ∀ i e rest, ab_dr i l = e :: rest → ab_ck1 Z K y e rest = true
  | [], _, i, e, rest, h => by rw [ab_dr_nil] at h; cases h
  | a :: l, hl, i, e, rest, h => by
    have h' : (bif ab_ck1 Z K y a l then ab_ckr Z K y l else false) = true := hl
    obtain ⟨q1, q2⟩ := ab_an h'
    cases i with
    | zero =>
      have h2 : a :: l = e :: rest := h
      cases h2
      exact q1
    | succ i => exact ab_ckr_at q2 i e rest h
theorem ab_ck_ok (hA : ab_LKa Z K) (hB : ab_LKb Z K) (hCL : ∀ ci, ci < ab_zNC Z → ab_CL (ab_zcl Z) (ab_zNF Z) (ab_zFT Z) (ab_zTW Z) ci (ab_zCT Z ci).1 (ab_zCT Z ci).2) (h : ab_ck Z K y = true) {i fl : Nat} (hi : ab_dr i (ab_zP Z y).1 = (pc, fl, cl, A, x1, x2, Xs) :: rest) : ab_EA Z y pc cl A x1 x2 Xs rest := by
  have h1 := ab_ckr_at h i _ _ hi
  unfold ab_ck1 at h1
  dsimp only at h1
  split at h1
  · rename_i ins len hd
    obtain ⟨q1, q2⟩ := ab_an h1
    refine ab_qa_ok hA hB hCL hd (fun e r hr => ?_) q2
    subst hr
    exact ab_beq q1
  · cases h1
end CK
end
