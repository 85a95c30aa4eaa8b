/-! ONE STEP of a walk that went well, by the rows that touch locals, stack and numbers alone. -/
/-- program, launch, world, room, the frame's start, method, arguments, frames below, method, code, what is owed -/
abbrev ab_XT : Type := Program × Launch × Env × Room × State × MethodId × Array Value × List Frame × Method × Code × (State → Prop)
abbrev ab_xs (X : ab_XT) : State := X.2.2.2.2.1
abbrev ab_xm (X : ab_XT) : MethodId := X.2.2.2.2.2.1
abbrev ab_xc (X : ab_XT) : Code := X.2.2.2.2.2.2.2.2.2.1
abbrev ab_xR (X : ab_XT) : Room := X.2.2.2.1
abbrev ab_xA (X : ab_XT) : Array Value := X.2.2.2.2.2.2.1
abbrev ab_xM (X : ab_XT) : Method := X.2.2.2.2.2.2.2.2.1
abbrev ab_W (X : ab_XT) (H : Heap) (locs : List Loc) (cn sn : Nat) (g : JFrame) : Prop := W X.1 X.2.1 X.2.2.1 X.2.2.2.1 X.2.2.2.2.1 X.2.2.2.2.2.1 X.2.2.2.2.2.2.1 X.2.2.2.2.2.2.2.1 X.2.2.2.2.2.2.2.2.1 X.2.2.2.2.2.2.2.2.2.1 H locs cn sn X.2.2.2.2.2.2.2.2.2.2 g
abbrev ab_WX (X : ab_XT) (H : Heap) (locs : List Loc) (cn sn : Nat) (g : JFrame) (q : Addr) : Prop := vx_W X.1 X.2.1 X.2.2.1 X.2.2.2.1 X.2.2.2.2.1 X.2.2.2.2.2.1 X.2.2.2.2.2.2.1 X.2.2.2.2.2.2.2.1 X.2.2.2.2.2.2.2.2.1 X.2.2.2.2.2.2.2.2.2.1 H locs cn sn X.2.2.2.2.2.2.2.2.2.2 g q
/-- what the handlers' table does with an exception -/
def ab_ET (Z : ab_ZT) (y : Nat) (X : ab_XT) : Prop := ((ab_zP Z y).2.2.2 = [] → ∀ x ∈ (ab_xc X).exceptionTable.toList, False) ∧ ∀ pc e g, ab_han pc e (ab_zP Z y).2.2.2 = some g →
  ∃ (pre : List ExceptionTableEntry) (x : ExceptionTableEntry) (suf : List ExceptionTableEntry) (name : String), (ab_xc X).exceptionTable.toList = pre ++ x :: suf ∧ (∀ z ∈ pre, covers z pc = false ∨ (z.catchType ≠ 0 ∧ ∃ nm : String, (Cond.classLink (ab_zY Z y).cls z.catchType nm).before (ab_xA X) (ab_xs X) = true ∧ va_Nc (ab_zEN Z e) nm (ab_xs X))) ∧
    covers x pc = true ∧ x.catchType ≠ 0 ∧ (Cond.classLink (ab_zY Z y).cls x.catchType name).before (ab_xA X) (ab_xs X) = true ∧ (Cond.castable (ab_zEN Z e) name).before (ab_xA X) (ab_xs X) = true ∧ ab_tg Z y g x.handlerPc
/-- a frame of method y -/
def ab_Cx (Z : ab_ZT) (U : ab_UT) (y : Nat) (X : ab_XT) : Prop :=
  X.1.tables.exec = Jvm.exec ∧ (ab_xc X).code = ab_zCB Z y ∧ (ab_xc X).maxLocals = ab_zML Z y ∧ (ab_xs X).vm.findClass (ab_zY Z y).cls = some (ab_xm X).cls ∧ (ab_xM X).name = (ab_zY Z y).name ∧ (ab_xM X).sig.returnType = ab_zRT Z y ∧ (ab_xM X).locks = false ∧
  (∀ w ∈ ab_zTW Z, w.before (ab_xA X) (ab_xs X) = true) ∧ ab_KH Z U (ab_xs X) ∧ X.2.1.stackTraces = false ∧ ((ab_xR X).frames = ab_zFR Z y ∧ (ab_xR X).locals = ab_zLO Z y ∧ (ab_xR X).cells = (ab_zP Z y).2.1 ∧ (ab_xR X).slots = (ab_zP Z y).2.2.1) ∧ U.2.2.1 < U.2.2.2 ∧ ab_ET Z y X
def ab_Go (Z : ab_ZT) (U : ab_UT) (y : Nat) (X : ab_XT) (ρ : Nat → Int) (n pc : Nat) (S : List ab_V) (L : ab_L) (h : ab_H) (cn sn : Nat) : Prop := ∀ (H : Heap) (ls : Array Slot) (st : List Value) (locs : List Loc),
  ab_rH Z U n ρ h H → ab_rL U n ρ (ab_zML Z y) L ls → ab_rS U n ρ S st → va_S (ab_nA U) (ab_xs X).heap H locs → ab_W X H locs cn sn (F0 (ab_xm X) pc ls st)
/-- a leaf: 0 a return, 1 a throw, else a cut -/
def ab_Lf (Z : ab_ZT) (U : ab_UT) (y : Nat) (X : ab_XT) (ρ : Nat → Int) (kd a : Nat) (S : List ab_V) (L : ab_L) (n : Nat) (h : ab_H) (cn sn : Nat) : Prop := match kd with
  | 0 => ∀ (ins : Instr) (pc : Nat) (H : Heap) (ls : Array Slot) (st : List Value) (locs : List Loc), decode (ab_zCB Z y) pc = .ok (ins, 1) → ab_kr (ab_zRT Z y) st ins → ab_rH Z U n ρ h H → ab_rS U n ρ S st → va_S (ab_nA U) (ab_xs X).heap H locs → ab_W X H locs cn sn (F0 (ab_xm X) pc ls st)
  | 1 => (ab_zP Z y).2.2.2 = [] → ∀ (pc : Nat) (H : Heap) (ls : Array Slot) (st : List Value) (locs : List Loc) (q : Addr) (ce : Cell), ab_rH Z U n ρ h H → H[q]? = some ce → ce.vm = .none → (ab_xs X).vm.findClass (ab_zEN Z a) = some ce.cls → va_S (ab_nA U) (ab_xs X).heap H locs → ab_WX X H locs cn sn (F0 (ab_xm X) pc ls st) q
  | _ => ab_Go Z U y X ρ n a S L h cn sn
def ab_Hk (Z : ab_ZT) (U : ab_UT) (y : Nat) (X : ab_XT) (n : Nat) (ρ : Nat → Int) (k : ab_K) : Prop := ∀ kd a S L (G : ab_G) h cn sn ρ', k kd a S L G h cn sn = true → ab_Ext n ρ G.1 ρ' → ab_Sat ρ' G → ab_Lf Z U y X ρ' kd a S L G.1 h cn sn
theorem ab_Hk.ext {Z : ab_ZT} {U : ab_UT} {y : Nat} {X : ab_XT} {n n' : Nat} {ρ ρ' : Nat → Int} {k : ab_K} (hk : ab_Hk Z U y X n ρ k) (hE : ab_Ext n ρ n' ρ') : ab_Hk Z U y X n' ρ' k := fun kd a S L G h cn sn ρ2 e1 e2 e3 => hk kd a S L G h cn sn ρ2 e1 (hE.tr e2) e3
def ab_Ok (Z : ab_ZT) (U : ab_UT) (F : ab_X) : Prop := ∀ y cuts fst pos L S (G : ab_G) h cn sn k, F y cuts fst pos L S G h cn sn k = true → (∃ i, pos = ab_dr i (ab_zP Z y).1) →
  ∀ (X : ab_XT) (ρ : Nat → Int), ab_Cx Z U y X → ab_Sat ρ G → ab_Hk Z U y X G.1 ρ k → ∀ pc, (∀ e r, pos = e :: r → e.1 = pc) → ab_Go Z U y X ρ G.1 pc S L h cn sn
theorem ab_dr_nil {α : Type} : ∀ i : Nat, ab_dr i ([] : List α) = []
  | 0 => rfl
  | _ + 1 => rfl
theorem ab_dr_succ {α : Type} : ∀ (i : Nat) (l : List α) (a : α) (t : List α), ab_dr i l = a :: t → ab_dr (i + 1) l = t
  | 0, l, a, t, h => by
    have h' : l = a :: t := h
    rw [h']
    rfl
  | i + 1, [], a, t, h => by cases h
  | i + 1, b :: l, a, t, h => by
    show ab_dr (i + 1) l = t
    exact ab_dr_succ i l a t h
theorem ab_dr_one {α : Type} (i : Nat) (l : List α) : ab_dr 1 (ab_dr i l) = ab_dr (i + 1) l := by
  cases h : ab_dr i l with
  | nil =>
    have go : ∀ (i : Nat) (l : List α), ab_dr i l = [] → ab_dr (i + 1) l = [] := by
      intro i
      induction i with
      | zero => intro l h; rw [show l = [] from h]; rfl
      | succ i ih =>
        intro l h
        cases l with
        | nil => rfl
        | cons b l => exact ih l h
    rw [go i l h]
    rfl
  | cons a t => rw [ab_dr_succ i l a t h]; rfl
/-- the entry's words -/
def ab_EK (Z : ab_ZT) (y pc k : Nat) (A : Int) (x1 x2 : Nat) (Xs : List Nat) (rest : List ab_E) (ins : Instr) (len : Nat) : Prop :=
  match k with
  | 0 => ab_R 0 A ∧ (ab_k0c ins len A ∨ ∃ i, ((ins = .ldc i ∧ len = 2) ∨ (ins = .ldc_w i ∧ len = 3)) ∧ Cond.constant (ab_zY Z y).cls i (Int32.ofInt A) ∈ ab_zTW Z)
  | 1 => ab_R 1 A ∧ ((∃ n : Fin 2, ins = .lconst n ∧ len = 1 ∧ Int64.ofNat n.val = Int64.ofInt A) ∨ ∃ i, ins = .ldc2_w i ∧ len = 3 ∧ Cond.constantLong (ab_zY Z y).cls i (Int64.ofInt A) ∈ ab_zTW Z)
  | 2 => ∃ i, ins = .ldc2_w i ∧ len = 3 ∧ Cond.constantDouble (ab_zY Z y).cls i 0x4020000000000000 ∈ ab_zTW Z
  | 3 => ab_k3 ins len x1 x2
  | 4 => ab_k4 ins len x1 x2 ∧ (x2 + 1 < ab_zML Z y ∨ (x2 < ab_zML Z y ∧ x1 ≠ 1))
  | 5 => ins = .iinc x1 A ∧ len = 3 ∧ x1 < ab_zML Z y ∧ ab_R 0 A
  | 6 => ab_k6 ins x1 x2 ∧ len = 1
  | 7 => len = 1 ∧ ((ins = .ineg ∧ x1 = 0) ∨ (ins = .lneg ∧ x1 = 1))
  | 8 => ins = .i2l ∧ len = 1
  | 9 => ins = .l2i ∧ len = 1
  | 10 => ins = .i2d ∧ len = 1
  | 11 => ins = .ddiv ∧ len = 1
  | 12 => ins = .dup ∧ len = 1
  | 13 => ins = .dup2 ∧ len = 1
  | 14 => ins = .pop ∧ len = 1
  | 15 => ins = .pop2 ∧ len = 1
  | 20 => len = 3 ∧ ∃ off tgt, ins = .goto off ∧ (pc : Int) + off = (tgt : Nat) ∧ ab_tg Z y x1 tgt
  | 21 => len = 3 ∧ x1 ≤ 5 ∧ ∃ off tgt, ins = .ifCond (ab_cn x1) off ∧ (pc : Int) + off = (tgt : Nat) ∧ ab_tg Z y x2 tgt
  | 22 => len = 3 ∧ x1 ≤ 5 ∧ ∃ off tgt, ins = .if_icmp (ab_cn x1) off ∧ (pc : Int) + off = (tgt : Nat) ∧ ab_tg Z y x2 tgt
  | 23 => len = 1 ∧ ins = .lcmp ∧ x1 ≤ 5 ∧ ∃ off tgt, decode (ab_zCB Z y) (pc + 1) = .ok (.ifCond (ab_cn x1) off, 3) ∧ ((pc + 1 : Nat) : Int) + off = (tgt : Nat) ∧ ab_tg Z y x2 tgt ∧ ∀ e2 e3 r3, rest = e2 :: e3 :: r3 → e3.1 = pc + 4
  | 24 => ∃ dflt lo hi offs tgt, ins = .tableswitch dflt lo hi offs ∧ lo = A ∧ hi = A + (Xs.length : Int) - 1 ∧ (pc : Int) + dflt = (tgt : Nat) ∧ ab_tg Z y x1 tgt ∧ ∀ (j t : Nat), ab_at Xs j = some t → ∃ off t2, offs[j]? = some off ∧ (pc : Int) + off = (t2 : Nat) ∧ ab_tg Z y t t2
  | 25 => ∃ dflt ps off tgt, ins = .lookupswitch dflt ps ∧ (ps.toList.zip (ps.toList.drop 1)).all (fun (a, next) => a.1 < next.1) = true ∧ Op.lookupswitch.offset ps.toList dflt A = off ∧ (pc : Int) + off = (tgt : Nat) ∧ ab_tg Z y x1 tgt
  | _ => True
section ST
variable {Z : ab_ZT} {U : ab_UT} {F : ab_X} {y : Nat} {X : ab_XT} {ρ : Nat → Int} {cuts : List Nat} {pc : Nat} {A : Int} {x1 x2 : Nat} {Xs : List Nat} {rest : List ab_E} {L : ab_L} {S : List ab_V} {G : ab_G} {h : ab_H} {cn sn : Nat} {k : ab_K} {ins : Instr} {len : Nat}
/-- on with the next row -/
theorem ab_nx (hih : ab_Ok Z U F) (hc : ab_Cx Z U y X) {G' : ab_G} {ρ' : Nat → Int} {L' : ab_L} {S' : List ab_V} {h' : ab_H} {cn' sn' : Nat} (hF : F y cuts false rest L' S' G' h' cn' sn' k = true) (hr : ∃ i, rest = ab_dr i (ab_zP Z y).1) {pc' : Nat} (hn : ∀ e r, rest = e :: r → e.1 = pc') (hs : ab_Sat ρ' G') (hk : ab_Hk Z U y X G.1 ρ k) (hE : ab_Ext G.1 ρ G'.1 ρ') :
    ab_Go Z U y X ρ' G'.1 pc' S' L' h' cn' sn' := hih y cuts false rest L' S' G' h' cn' sn' k hF hr X ρ' hc hs (hk.ext hE) pc' hn
theorem ab_st3 (hih : ab_Ok Z U F) (hc : ab_Cx Z U y X) (hs : ab_Sat ρ G) (hk : ab_Hk Z U y X G.1 ρ k) (hd : decode (ab_zCB Z y) pc = .ok (ins, len)) (hr : ∃ i, rest = ab_dr i (ab_zP Z y).1) (hn : ∀ e r, rest = e :: r → e.1 = pc + len) (hE : ab_k3 ins len x1 x2)
    (hx : ab_i3 x1 x2 L (fun v => F y cuts false rest L (v :: S) G h cn sn k) = true) : ab_Go Z U y X ρ G.1 pc S L h cn sn := by
  unfold ab_i3 at hx
  split at hx
  · rename_i v hl
    obtain ⟨h1, h2⟩ := ab_an hx
    intro H ls st locs a1 a2 a3 a4
    obtain ⟨x, b1, b2⟩ := a2.get hl
    exact ab_w3 hc.1 hc.2.1 hd hE h1 b1 b2 (ab_nx hih hc h2 hr hn hs hk (ab_Ext.rf _ _) H ls (x :: st) locs a1 a2 ⟨b2, a3⟩ a4)
  · cases hx
theorem ab_st0 (hih : ab_Ok Z U F) (hc : ab_Cx Z U y X) (hs : ab_Sat ρ G) (hk : ab_Hk Z U y X G.1 ρ k) (hd : decode (ab_zCB Z y) pc = .ok (ins, len)) (hr : ∃ i, rest = ab_dr i (ab_zP Z y).1) (hn : ∀ e r, rest = e :: r → e.1 = pc + len) (hE : ab_EK Z y pc 0 A x1 x2 Xs rest ins len)
    (hx : F y cuts false rest L (.inl (.inl (.inl A)) :: S) G h cn sn k = true) : ab_Go Z U y X ρ G.1 pc S L h cn sn := by
  obtain ⟨hA, hE⟩ := hE
  intro H ls st locs a1 a2 a3 a4
  have go := ab_nx hih hc hx hr hn hs hk (ab_Ext.rf _ _) H ls (.int (Int32.ofInt A) :: st) locs a1 a2 ⟨⟨rfl, hA, trivial⟩, a3⟩ a4
  rcases hE with hE | ⟨i, ⟨rfl, rfl⟩ | ⟨rfl, rfl⟩, hw⟩
  · exact ab_w0 hc.1 hc.2.1 hd hE go
  · exact lv_ldc hc.1 hc.2.1 hc.2.2.2.1 (hc.2.2.2.2.2.2.2.1 _ hw) hd go
  · exact lv_ldcw hc.1 hc.2.1 hc.2.2.2.1 (hc.2.2.2.2.2.2.2.1 _ hw) hd go
theorem ab_st1 (hih : ab_Ok Z U F) (hc : ab_Cx Z U y X) (hs : ab_Sat ρ G) (hk : ab_Hk Z U y X G.1 ρ k) (hd : decode (ab_zCB Z y) pc = .ok (ins, len)) (hr : ∃ i, rest = ab_dr i (ab_zP Z y).1) (hn : ∀ e r, rest = e :: r → e.1 = pc + len) (hE : ab_EK Z y pc 1 A x1 x2 Xs rest ins len)
    (hx : F y cuts false rest L (.inl (.inr (.inl A)) :: S) G h cn sn k = true) : ab_Go Z U y X ρ G.1 pc S L h cn sn := by
  obtain ⟨hA, hE⟩ := hE
  intro H ls st locs a1 a2 a3 a4
  have go := ab_nx hih hc hx hr hn hs hk (ab_Ext.rf _ _) H ls (.long (Int64.ofInt A) :: st) locs a1 a2 ⟨⟨rfl, hA, trivial⟩, a3⟩ a4
  rcases hE with ⟨n, rfl, rfl, e⟩ | ⟨i, rfl, rfl, hw⟩
  · exact lv_lconst hc.1 hc.2.1 hd e go
  · exact lv_ldc2 hc.1 hc.2.1 hc.2.2.2.1 (hc.2.2.2.2.2.2.2.1 _ hw) hd go
theorem ab_st2 (hih : ab_Ok Z U F) (hc : ab_Cx Z U y X) (hs : ab_Sat ρ G) (hk : ab_Hk Z U y X G.1 ρ k) (hd : decode (ab_zCB Z y) pc = .ok (ins, len)) (hr : ∃ i, rest = ab_dr i (ab_zP Z y).1) (hn : ∀ e r, rest = e :: r → e.1 = pc + len) (hE : ab_EK Z y pc 2 A x1 x2 Xs rest ins len)
    (hx : F y cuts false rest L (.inr (.inr 3) :: S) G h cn sn k = true) : ab_Go Z U y X ρ G.1 pc S L h cn sn := by
  obtain ⟨i, rfl, rfl, hw⟩ := hE
  intro H ls st locs a1 a2 a3 a4
  have go := ab_nx hih hc hx hr hn hs hk (ab_Ext.rf _ _) H ls (.double 0x4020000000000000 :: st) locs a1 a2 ⟨Or.inr (Or.inr (Or.inr (Or.inl ⟨rfl, rfl⟩))), a3⟩ a4
  exact lv_ldc2d hc.1 hc.2.1 hc.2.2.2.1 (hc.2.2.2.2.2.2.2.1 _ hw) hd go
theorem ab_st4 (hih : ab_Ok Z U F) (hc : ab_Cx Z U y X) (hs : ab_Sat ρ G) (hk : ab_Hk Z U y X G.1 ρ k) (hd : decode (ab_zCB Z y) pc = .ok (ins, len)) (hr : ∃ i, rest = ab_dr i (ab_zP Z y).1) (hn : ∀ e r, rest = e :: r → e.1 = pc + len) (hE : ab_EK Z y pc 4 A x1 x2 Xs rest ins len)
    (hx : (match S with
      | v :: S' => bif ab_tag x1 v then F y cuts false rest (ab_sto x2 v L) S' G h cn sn k else false
      | [] => false) = true) : ab_Go Z U y X ρ G.1 pc S L h cn sn := by
  obtain ⟨hE, hl⟩ := hE
  cases S with
  | nil => cases hx
  | cons v S' =>
    obtain ⟨h1, h2⟩ := ab_an hx
    intro H ls st locs a1 a2 a3 a4
    obtain ⟨x, st', rfl, b1, b2⟩ := a3.cons
    exact ab_w4 hc.1 hc.2.1 hd hE hl h1 b1 a2 (fun ls' hL => ab_nx hih hc h2 hr hn hs hk (ab_Ext.rf _ _) H ls' st' locs a1 hL b2 a4)
theorem ab_wi {n : Nat} {ρ : Nat → Int} {s : ab_S} {z : Int} (hR : ab_R 0 z) (ho : ab_oS n s) (he : ab_sv ρ s = z) : ab_rV U n ρ (.inl (.inl s)) (.int (Int32.ofInt z)) := ⟨by rw [he], by rw [he]; exact hR, ho⟩
theorem ab_wl {n : Nat} {ρ : Nat → Int} {s : ab_S} {z : Int} (hR : ab_R 1 z) (ho : ab_oS n s) (he : ab_sv ρ s = z) : ab_rV U n ρ (.inl (.inr s)) (.long (Int64.ofInt z)) := ⟨by rw [he], by rw [he]; exact hR, ho⟩
theorem ab_st5 (hih : ab_Ok Z U F) (hc : ab_Cx Z U y X) (hs : ab_Sat ρ G) (hk : ab_Hk Z U y X G.1 ρ k) (hd : decode (ab_zCB Z y) pc = .ok (ins, len)) (hr : ∃ i, rest = ab_dr i (ab_zP Z y).1) (hn : ∀ e r, rest = e :: r → e.1 = pc + len) (hE : ab_EK Z y pc 5 A x1 x2 Xs rest ins len)
    (hx : ab_i5 x1 A L G (fun v G' => F y cuts false rest (ab_sto x1 v L) S G' h cn sn k) = true) : ab_Go Z U y X ρ G.1 pc S L h cn sn := by
  obtain ⟨rfl, rfl, hl, hA⟩ := hE
  unfold ab_i5 at hx
  split at hx
  · rename_i s0 hlk
    intro H ls st locs a1 a2 a3 a4
    obtain ⟨x, b1, rfl, b3, b4⟩ := a2.get hlk
    obtain ⟨-, s1, G', ρ', f1, f2, f3, f4, f5⟩ := ab_ar_ok (k := 0) (op := 0) (b := .inl A) hs b4 trivial b3 hA hx
    have e : Int32.ofInt (ab_sv ρ s0) + Int32.ofInt A = Int32.ofInt (ab_opZ 0 0 (ab_sv ρ s0) A) := by
      show _ = Int32.ofInt (Int32.ofInt (ab_sv ρ s0) + Int32.ofInt A).toInt
      rw [Int32.ofInt_toInt]
    refine ab_w5 hc.1 hc.2.1 hd hl b1 a2 f2 (v := .inl (.inl s1)) (by rw [e]; exact ab_wi (ab_opR 0 0 _ _) f4 f5) (fun ls' hL => ?_)
    exact ab_nx hih hc f1 hr hn f3 hk f2 H ls' st locs (a1.ext f2) hL (a3.ext f2) a4
  · cases hx
theorem ab_st6 (hih : ab_Ok Z U F) (hc : ab_Cx Z U y X) (hs : ab_Sat ρ G) (hk : ab_Hk Z U y X G.1 ρ k) (hd : decode (ab_zCB Z y) pc = .ok (ins, len)) (hr : ∃ i, rest = ab_dr i (ab_zP Z y).1) (hn : ∀ e r, rest = e :: r → e.1 = pc + len) (hE : ab_EK Z y pc 6 A x1 x2 Xs rest ins len)
    (hx : ab_i6 x1 x2 S G (fun S' G' => F y cuts false rest L S' G' h cn sn k) = true) : ab_Go Z U y X ρ G.1 pc S L h cn sn := by
  obtain ⟨hE, rfl⟩ := hE
  unfold ab_i6 at hx
  split at hx
  · rename_i b0 a0 S'
    obtain ⟨h1, h2⟩ := ab_an hx
    have e1 : x1 = 0 := ab_beq h1
    subst e1
    intro H ls st locs a1 a2 a3 a4
    obtain ⟨x, st1, rfl, ⟨rfl, b3, b4⟩, b5⟩ := a3.cons
    obtain ⟨x', st2, rfl, ⟨rfl, c3, c4⟩, c5⟩ := b5.cons
    obtain ⟨h0, s1, G', ρ', f1, f2, f3, f4, f5⟩ := ab_ar_ok (k := 0) hs c4 b4 c3 b3 h2
    exact ab_w6 hc.1 hc.2.1 hd hE b3 h0 (ab_nx hih hc f1 hr hn f3 hk f2 H ls _ locs (a1.ext f2) (a2.ext f2) ⟨ab_wi (ab_opR 0 _ _ _) f4 f5, c5.ext f2⟩ a4)
  · rename_i b0 a0 S'
    obtain ⟨h1, h2⟩ := ab_an hx
    obtain ⟨h1, h3⟩ := ab_an h1
    have e1 : x1 = 1 := ab_beq h1
    subst e1
    intro H ls st locs a1 a2 a3 a4
    obtain ⟨x, st1, rfl, ⟨rfl, b3, b4⟩, b5⟩ := a3.cons
    obtain ⟨x', st2, rfl, ⟨rfl, c3, c4⟩, c5⟩ := b5.cons
    obtain ⟨h0, s1, G', ρ', f1, f2, f3, f4, f5⟩ := ab_ar_ok (k := 1) hs c4 b4 c3 b3 h2
    exact ab_w6L hc.1 hc.2.1 hd hE b3 h0 (ab_nx hih hc f1 hr hn f3 hk f2 H ls _ locs (a1.ext f2) (a2.ext f2) ⟨ab_wl (ab_opR 1 _ _ _) f4 f5, c5.ext f2⟩ a4)
  · cases hx
theorem ab_st7 (hih : ab_Ok Z U F) (hc : ab_Cx Z U y X) (hs : ab_Sat ρ G) (hk : ab_Hk Z U y X G.1 ρ k) (hd : decode (ab_zCB Z y) pc = .ok (ins, len)) (hr : ∃ i, rest = ab_dr i (ab_zP Z y).1) (hn : ∀ e r, rest = e :: r → e.1 = pc + len) (hE : ab_EK Z y pc 7 A x1 x2 Xs rest ins len)
    (hx : ab_i7 S G (fun S' G' => F y cuts false rest L S' G' h cn sn k) x1 = true) : ab_Go Z U y X ρ G.1 pc S L h cn sn := by
  obtain ⟨rfl, hE⟩ := hE
  unfold ab_i7 at hx
  split at hx
  · rename_i a0 S'
    obtain ⟨h1, h2⟩ := ab_an hx
    have e1 : x1 = 0 := ab_beq h1
    subst e1
    rcases hE with ⟨rfl, -⟩ | ⟨-, q⟩
    · intro H ls st locs a1 a2 a3 a4
      obtain ⟨x, st1, rfl, ⟨rfl, b3, b4⟩, b5⟩ := a3.cons
      obtain ⟨-, s1, G', ρ', f1, f2, f3, f4, f5⟩ := ab_ar_ok (k := 0) (op := 1) (a := .inl 0) hs trivial b4 ab_z0 b3 h2
      refine lv_ineg hc.1 hc.2.1 hd ?_
      rw [← ab_neg32]
      exact ab_nx hih hc f1 hr hn f3 hk f2 H ls _ locs (a1.ext f2) (a2.ext f2) ⟨ab_wi (ab_opR 0 _ _ _) f4 f5, b5.ext f2⟩ a4
    · cases q
  · rename_i a0 S'
    obtain ⟨h1, h2⟩ := ab_an hx
    have e1 : x1 = 1 := ab_beq h1
    subst e1
    rcases hE with ⟨-, q⟩ | ⟨rfl, -⟩
    · cases q
    · intro H ls st locs a1 a2 a3 a4
      obtain ⟨x, st1, rfl, ⟨rfl, b3, b4⟩, b5⟩ := a3.cons
      obtain ⟨-, s1, G', ρ', f1, f2, f3, f4, f5⟩ := ab_ar_ok (k := 1) (op := 1) (a := .inl 0) hs trivial b4 ab_z1 b3 h2
      refine lv_lneg hc.1 hc.2.1 hd ?_
      rw [← ab_neg64]
      exact ab_nx hih hc f1 hr hn f3 hk f2 H ls _ locs (a1.ext f2) (a2.ext f2) ⟨ab_wl (ab_opR 1 _ _ _) f4 f5, b5.ext f2⟩ a4
  · cases hx
end ST
