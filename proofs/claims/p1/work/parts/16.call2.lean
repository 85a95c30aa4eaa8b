/-! A CALL'S STEP. -/
section FN
variable {p : Program} {l : Launch} {e : Env} {R : Room} {s : State} {m : MethodId} {args : Array Value} {below : List Frame} {meth : Method} {c : Code} {H : Heap} {locs : List Loc} {cells slots : Nat}
theorem ab_fin {mc ms : Nat} {g : JFrame} {rest : List Value} {a : Array Value} {Qc : Array Value → State → Outcome → State → Prop} {XC : String → State → State → Prop} {free : Addr → Prop} {T : State} (hT : T.heap = H)
    (h : (∃ (v : Option Value) (vm₁ : Vm) (B : Pt), s.WarmedH vm₁ ∧ Stand p l e R s m args below meth c B.U B.locs B.cells B.slots ∧ PostOf Qc mc ms free ⟨T.setVm vm₁, locs, cells, slots⟩ a v B ∧
      ∀ target, Steps p.tables e below (B.U.setTop { g with pc := g.pc + 3, stack := v.toList ++ rest }) target → Steps p.tables e below (T.setTop g) target) ∨
    (∃ (q : Addr) (vm₁ : Vm) (B : Pt), s.WarmedH vm₁ ∧ Stand p l e R s m args below meth c B.U B.locs B.cells B.slots ∧ vx_Post XC mc ms free ⟨T.setVm vm₁, locs, cells, slots⟩ a q B ∧
      Steps p.tables e below (T.setTop g) ((B.U.setTop { g with stack := rest }).pushFrame (.throwing q)))) :
    (∃ (v : Option Value) (st₀ t T' : State) (L : List Loc), st₀.heap = H ∧ Stand p l e R s m args below meth c T' (locs ++ L) (cells + mc) (slots + ms) ∧ (∀ q ∈ L, free q.base) ∧ T'.heap = t.heap ∧ T'.vm = t.vm ∧ Qc a st₀ (.returned v) t ∧
      Goes p e below T g T' { g with pc := g.pc + 3, stack := v.toList ++ rest }) ∨
    (∃ (q : Addr) (st₀ t T' : State) (L : List Loc) (E : String) (ce : Cell), st₀.heap = H ∧ Stand p l e R s m args below meth c T' (locs ++ L) (cells + mc) (slots + ms) ∧ (∀ z ∈ L, free z.base) ∧ T'.heap = t.heap ∧ T'.vm = t.vm ∧ XC E st₀ t ∧ t.heap[q]? = some ce ∧ ce.vm = .none ∧ s.vm.findClass E = some ce.cls ∧
      Steps p.tables e below (T.setTop g) ((T'.setTop { g with stack := rest }).pushFrame (.throwing q))) := by
  rcases h with ⟨v, vm₁, ⟨U', l2, c2, s2⟩, hW₁, X', ⟨g', mk, t, L, e1, e2, hq, h1, hL, h2, h3⟩, st⟩ | ⟨q, vm₁, ⟨U', l2, c2, s2⟩, hW₁, X', ⟨g', mk, t, L, E, ce, e1, e2, hq, hce, hcv, hcl, h1, hL, h2, h3⟩, st⟩
  · dsimp only [Pt.U, Pt.locs, Pt.cells, Pt.slots] at X' e1 e2 h1 h2 h3 st
    subst h1; subst h2; subst h3
    exact Or.inl ⟨v, (T.setVm vm₁).calling g' mk a, t, U', L, hT, X', hL, e1, e2, hq, st⟩
  · dsimp only [Pt.U, Pt.locs, Pt.cells, Pt.slots] at X' e1 e2 h1 h2 h3 st hcl
    subst h1; subst h2; subst h3
    exact Or.inr ⟨q, (T.setVm vm₁).calling g' mk a, t, U', L, E, ce, hT, X', hL, e1, e2, hq, hce, hcv, vx_cls hW₁ hcl, st⟩
end FN
section C2
variable {Z : ab_ZT} {U : ab_UT} {y : Nat} {X : ab_XT} {pc : Nat} {ins : Instr} {len : Nat}
theorem ab_run40 (hGd : ab_Gd Z) (hc : ab_Cx Z U y X) {y2 n vc mx : Nat} (hEC : ab_EC Z y ins len y2 n vc mx) (hd : decode (ab_zCB Z y) pc = .ok (ins, len)) {Pc : Array Value → State → Prop} {Qc : Array Value → State → Outcome → State → Prop} {XC : String → State → State → Prop}
    (hM : vx_Met X.2.1 (ab_zY Z y2) (ab_cw Z y2 :: ab_zTW Z) (ab_rmy Z y2) Pc Qc XC (ab_zP Z y2).2.1 (ab_zP Z y2).2.2.1 (ab_nA U)) (hbl : FrameBlind Pc) {H : Heap} {locs : List Loc} {cn sn : Nat} {As rest : List Value} {ls : Array Slot} (hn : As.length = n)
    (hrc : ∀ ci, vc = ci + 1 → ∃ b As' cellB, As = Value.ref b :: As' ∧ H[b]? = some cellB ∧ cellB.vm = .none ∧ cellB.cls = U.1.1 ci) (hpc : ∀ t : State, t.heap = H → (ab_xs X).WarmedH t.vm → Pc As.toArray t) (hrm : cn + (ab_zP Z y2).2.1 ≤ (ab_xR X).cells ∧ sn + (ab_zP Z y2).2.2.1 ≤ (ab_xR X).slots) (hw : (rest.map fun v => v.category).sum ≤ 40) (hls : ls.size = ab_zML Z y) :
    vx_Run X.1 X.2.1 X.2.2.1 (ab_xR X) (ab_xs X) (ab_xm X) (ab_xA X) X.2.2.2.2.2.2.2.1 (ab_xM X) (ab_xc X) H locs cn sn (ab_zP Z y2).2.1 (ab_zP Z y2).2.2.1 (F0 (ab_xm X) pc ls (As.reverse ++ rest)) rest (Qc As.toArray) XC (ab_nA U) := by
  obtain ⟨rfl, f1, f2, -, ⟨m1, m2, m3, m4, m5, m6⟩, i, np, hnp, hkd⟩ := hEC
  obtain ⟨k1, k2, k3, k4, k5, k6, k7, k8, k9, k10, k11, k12, k13⟩ := hc
  have hlen : ∀ sig, parseMethodDescriptor (ab_zY Z y2).desc = some sig → np = sig.parameters.length := fun sig h => by
    rw [h] at hnp
    exact (Option.some.inj hnp).symm
  have hpay : ∀ w ∈ ab_cw Z y2 :: ab_zTW Z, ∀ (a' : Array Value) (t : State), (ab_xs X).WarmedH t.vm → w.before a' t = true := pay_in k8 (fun w hw => by
    rcases List.mem_cons.mp hw with rfl | hw
    · exact ⟨m3, hGd.1 _ m3⟩
    · exact ⟨hw, hGd.1 _ hw⟩)
  have hini : ∀ (a' : Array Value) (t : State), (ab_xs X).WarmedH t.vm → (Cond.initialized (ab_zY Z y2).cls).before a' t = true := fun a' t hW => hpay _ (List.mem_cons_of_mem _ m4) a' t hW
  have g1 : (ab_rmy Z y2).frames + 1 ≤ (ab_xR X).frames := by rw [k11.1]; exact f1
  have g2 : 40 + (ab_zML Z y2 + 11) + (ab_rmy Z y2).locals ≤ (ab_xR X).locals := by rw [k11.2.1]; exact f2
  have hcode := k8 _ m3
  have hback : vx_Back X.2.1 (ab_xR X) X.1 X.2.2.1 X.2.2.2.2.2.2.2.1 (ab_xs X) (ab_xA X) (ab_zY Z y2) 3 40 (PreOf (ab_xR X) (ab_zP Z y2).2.1 (ab_zP Z y2).2.2.1 Pc) (PostOf Qc (ab_zP Z y2).2.1 (ab_zP Z y2).2.2.1 (ab_nA U)) (vx_Post XC (ab_zP Z y2).2.1 (ab_zP Z y2).2.2.1 (ab_nA U)) := by
    cases hh : ab_zHT Z y2 with
    | nil => exact vx_back (bytes := ab_zCB Z y2) (maxL := ab_zML Z y2) (ret := ab_zRT Z y2) hM hbl rfl rfl g1 g2 hpay (by unfold ab_cw; rw [hh]; exact List.mem_cons_self) hini
    | cons q r => exact vx_backW (bytes := ab_zCB Z y2) (maxL := ab_zML Z y2) (ret := ab_zRT Z y2) (hh := q :: r) hM hbl rfl rfl g1 g2 hpay (by unfold ab_cw; rw [hh]; exact List.mem_cons_self) hini
  have hsz : (F0 (ab_xm X) pc ls (As.reverse ++ rest)).locals.size = (ab_xc X).maxLocals := by rw [k3]; exact hls
  have hw0 : 2 * (F0 (ab_xm X) pc ls (As.reverse ++ rest)).monitorRoom + (rest.map fun v => v.category).sum ≤ 40 := by show 2 * 0 + _ ≤ 40; omega
  have hpre : ∀ {T : State}, T.heap = H → ∀ vm₁, (ab_xs X).WarmedH vm₁ → PreOf (ab_xR X) (ab_zP Z y2).2.1 (ab_zP Z y2).2.2.1 Pc ⟨T.setVm vm₁, locs, cn, sn⟩ As.toArray := fun {T} hT vm₁ hW => ⟨hrm.1, hrm.2, hpc (T.setVm vm₁) hT hW⟩
  intro T hT Xs
  refine ab_fin hT ?_
  rcases hkd with ⟨rfl, w1, rfl, hl⟩ | ⟨hh, rfl, w1, w2, rfl, ⟨ci, v1, v2⟩, hl⟩ | ⟨hh, ⟨ci, v1⟩, hrt, rfl, hnm, w1, rfl, hl⟩
  · have hcat : (Cond.static (ab_zY Z y2)).before (ab_xA X) (ab_xs X) = true := k8 _ w1
    have hdg : decode (ab_xc X).code pc = .ok (.invokestatic i, 3) := by rw [k2]; exact hd
    have hii := hini (ab_xA X) (ab_xs X) (State.WarmedH.refl _)
    unfold ab_cw at hcode
    cases hh : ab_zHT Z y2 with
    | nil =>
      rw [hh] at hcode
      rcases hl with hl | ⟨-, host, hl⟩
      · exact vx_callS Xs k1 k4 (k8 _ hl) hcat hii hcode m2 hback (g := F0 (ab_xm X) pc ls (As.reverse ++ rest)) rfl hsz (argsL := As) (fun sig h => hn.trans (hlen sig h)) rfl hw0 hdg (hpre hT)
      · exact vx_callSN Xs k1 k4 (va_Nw.use (hGd.2.2.1 _ hl) (k9.2.1 _ hl)) hcat hii hcode m2 hback (g := F0 (ab_xm X) pc ls (As.reverse ++ rest)) rfl hsz (argsL := As) (fun sig h => hn.trans (hlen sig h)) rfl hw0 hdg (hpre hT)
    | cons q r =>
      rw [hh] at hcode
      rcases hl with hl | ⟨q9, -⟩
      · exact vx_callSX (hh := q :: r) Xs k1 k4 (k8 _ hl) hcat hii hcode m2 hback (g := F0 (ab_xm X) pc ls (As.reverse ++ rest)) rfl hsz (argsL := As) (fun sig h => hn.trans (hlen sig h)) rfl hw0 hdg (hpre hT)
      · rw [hh] at q9; cases q9
  · obtain ⟨b, As', cellB, rfl, c1, c2, c3⟩ := hrc ci v1
    have hcode' : (Cond.code (ab_zY Z y2) (ab_zCB Z y2) (ab_zML Z y2) (ab_zRT Z y2)).before (ab_xA X) (ab_xs X) = true := by
      unfold ab_cw at hcode
      rw [hh] at hcode
      exact hcode
    have hdg : decode (ab_xc X).code pc = .ok (.invokevirtual i, 3) := by rw [k2]; exact hd
    have hcl : (ab_xs X).vm.findClass (ab_zY Z y2).cls = some cellB.cls := by rw [c3]; exact (k9.1.1 ci _ v2.1).2.1
    have hst : (F0 (ab_xm X) pc ls ((Value.ref b :: As').reverse ++ rest)).stack = As'.reverse ++ .ref b :: rest := by
      show (Value.ref b :: As').reverse ++ rest = _
      rw [List.reverse_cons, List.append_assoc]
      rfl
    have hn' : As'.length = np := by simpa using hn
    rcases hl with hl | ⟨host, hl⟩
    · exact vx_callV Xs k1 k4 (k8 _ hl) (k8 _ w1) (k8 _ w2) hcode' m2 hback (b := b) (by rw [hT]; exact c1) (by rw [c2]; rfl) hcl (g := F0 (ab_xm X) pc ls ((Value.ref b :: As').reverse ++ rest)) rfl hsz (argsL := As') (fun sig h => hn'.trans (hlen sig h)) hst hw0 hdg (hpre hT)
    · exact vx_callVN Xs k1 k4 (va_Nw.use (hGd.2.2.1 _ hl) (k9.2.1 _ hl)) (k8 _ w1) (k8 _ w2) hcode' m2 hback (b := b) (by rw [hT]; exact c1) (by rw [c2]; rfl) hcl (g := F0 (ab_xm X) pc ls ((Value.ref b :: As').reverse ++ rest)) rfl hsz (argsL := As') (fun sig h => hn'.trans (hlen sig h)) hst hw0 hdg (hpre hT)
  · obtain ⟨b, As', cellB, rfl, c1, c2, c3⟩ := hrc ci v1
    have hcode' : (Cond.code (ab_zY Z y2) (ab_zCB Z y2) (ab_zML Z y2) none).before (ab_xA X) (ab_xs X) = true := by
      unfold ab_cw at hcode
      rw [hh, hrt] at hcode
      exact hcode
    have hdg : decode (ab_xc X).code pc = .ok (.invokespecial i, 3) := by rw [k2]; exact hd
    have hst : (F0 (ab_xm X) pc ls ((Value.ref b :: As').reverse ++ rest)).stack = As'.reverse ++ .ref b :: rest := by
      show (Value.ref b :: As').reverse ++ rest = _
      rw [List.reverse_cons, List.append_assoc]
      rfl
    have hn' : As'.length = np := by simpa using hn
    rcases hl with hl | ⟨host, hl⟩
    · exact vx_callI Xs k1 k4 hnm (k8 _ hl) (k8 _ w1) hcode' m2 hback (g := F0 (ab_xm X) pc ls ((Value.ref b :: As').reverse ++ rest)) rfl hsz (a := b) (argsL := As') (fun sig h => hn'.trans (hlen sig h)) hst hw0 hdg (hpre hT)
    · exact vx_callIN Xs k1 k4 hnm (va_Nw.use (hGd.2.2.1 _ hl) (k9.2.1 _ hl)) (k8 _ w1) hcode' m2 hback (g := F0 (ab_xm X) pc ls ((Value.ref b :: As').reverse ++ rest)) rfl hsz (a := b) (argsL := As') (fun sig h => hn'.trans (hlen sig h)) hst hw0 hdg (hpre hT)
end C2
theorem ab_vS_call {A : Nat → Prop} {H0 : Heap} {st t : State} {locs L : List Loc} (h : va_S A H0 st.heap locs) (hF : va_F A st t) (hL : ∀ q ∈ L, A q.base) : va_S A H0 t.heap (locs ++ L) :=
  ⟨Nat.le_trans h.1 hF.1, fun q h1 h2 => (hF.2 q (Nat.lt_of_lt_of_le h1 h.1) h2).trans (h.2.1 q h1 h2), fun q hq => by
    rcases List.mem_append.mp hq with h1 | h1
    · exact h.2.2 q h1
    · exact hL q h1⟩
section C3
variable {Z : ab_ZT} {U : ab_UT} {F : ab_X} {y : Nat} {X : ab_XT} {ρ : Nat → Int} {cuts : List Nat} {pc : Nat} {A : Int} {x1 x2 : Nat} {Xs : List Nat} {pos rest : List ab_E} {L : ab_L} {S : List ab_V} {G : ab_G} {h : ab_H} {cn sn : Nat} {k : ab_K} {ins : Instr} {len : Nat}
theorem ab_st40 (hGd : ab_Gd Z) (hih : ab_Ok Z U F) (hc : ab_Cx Z U y X) (hs : ab_Sat ρ G) (hk : ab_Hk Z U y X G.1 ρ k) (hd : decode (ab_zCB Z y) pc = .ok (ins, len)) (hr : ∃ i, rest = ab_dr i (ab_zP Z y).1) (hn : ∀ e r, rest = e :: r → e.1 = pc + len) {y2 n vc mx : Nat} (hE : ab_EC Z y ins len y2 n vc mx)
    (hx : ab_call (ab_zBS Z) (ab_zP Z) F y cuts pc y2 n vc mx rest L S G h cn sn k = true) : ab_Go Z U y X ρ G.1 pc S L h cn sn := by
  have hlen3 : len = 3 := hE.1
  subst hlen3
  unfold ab_call at hx
  obtain ⟨as, S', rfl, hasn, hx⟩ := ab_rst_ok hx
  obtain ⟨q1, q2⟩ := ab_an hx
  obtain ⟨q3, q4⟩ := ab_an q1
  obtain ⟨q5, q6⟩ := ab_an q3
  obtain ⟨q7, q8⟩ := ab_an q5
  have hmx : mx = ab_zML Z y2 := hE.2.2.2.1
  subst hmx
  intro H ls st locs a1 a2 a3 a4
  obtain ⟨sA, st', rfl, b1, b2⟩ := ab_RS_split a3
  have hAs : ab_rS U G.1 ρ as sA.reverse := by
    have := ab_RS_rev b1
    rw [List.reverse_reverse] at this
    exact this
  have eAs : sA ++ st' = sA.reverse.reverse ++ st' := by rw [List.reverse_reverse]
  have hwords := b2.words
  have hq7 := ab_ble q7
  obtain ⟨lv, hlv, hlv2⟩ := a2
  have a2 : ab_rL U G.1 ρ (ab_zML Z y) L ls := ⟨lv, hlv, hlv2⟩
  have hMet := ab_met hGd hih hc.2.2.2.2.2.2.2.2.2.1 hc.2.2.2.2.2.2.2.2.2.2.2.1 hE.2.2.2.2.1 hs hAs (ab_ble q8) (kk := _) (fun kd e S2 L2 G2 h2 cn2 sn2 hkk => by
    obtain ⟨r1, r2⟩ := ab_an hkk
    obtain ⟨r3, r4⟩ := ab_an r1
    refine ⟨?_, ab_ble r3, ab_ble r4⟩
    rcases ab_if r2 with ⟨r5, -⟩ | ⟨-, r6⟩
    · exact Or.inl (ab_beq r5)
    · exact Or.inr (ab_beq (ab_an r6).1)) q2
  have hrun := ab_run40 hGd hc hE hd hMet (fun a t g mk hP => ⟨hP.1, ab_KH.moved (t := t.calling g mk a) hGd.2.1 (State.WarmedH.refl t) hP.2.1 (fun _ _ _ => rfl), hP.2.2⟩) (H := H) (locs := locs) (cn := cn) (sn := sn) (As := sA.reverse) (rest := st') (ls := ls) (by rw [hAs.len]; exact hasn) (fun ci hvc => by
      subst hvc
      unfold ab_rcv at q6
      rcases ab_if q6 with ⟨z1, -⟩ | ⟨-, z2⟩
      · cases z1
      · split at z2
        · rename_i c as' hq9
          split at z2
          · rename_i cj fs hcl
            have ej : cj = ci := Nat.succ.inj (ab_beq z2)
            subst ej
            obtain ⟨x, t, e1, e2, e3⟩ := ab_RS.cons hAs
            obtain ⟨V, ce, o1, o2, o3, -⟩ := (a1.2.2 _ _ hcl).2
            have ex : x = .ref (ab_ad U.2.2.1 U.2.2.2 c) := e2
            exact ⟨_, t, ce, by rw [e1, ex], o1, o3, o2⟩
          · cases z2
        · cases z2) (fun t ht hW => ⟨rfl, hc.2.2.2.2.2.2.2.2.1.moved hGd.2.1 hW (fun q hq hA => by rw [ht]; exact a4.2.1 q hq hA), by rw [ht]; exact a1⟩) (ab_rm_ok hc q4) (by omega) hlv.1
  rw [eAs]
  intro T hT XT
  rcases hrun T hT XT with ⟨v, st0, t, T', L9, h0, X', hL, e1, e2, ⟨v2, ev, a5, S2, L2, G2, h2, cn2, sn2, ρ2, hkk, hE2, hs2, hS2, hH2, hF⟩, go⟩ | ⟨q, st0, t, T', L9, E, ce, h0, X', hL, e1, e2, ⟨e5, S2, L2, G2, h2, cn2, sn2, ρ2, rfl, hkk, hE2, hs2, hH2, hF⟩, hcell, hcv, hcl, go⟩
  · cases ev
    obtain ⟨r1, r2⟩ := ab_an hkk
    subst h0
    have nx := ab_nx hih hc r2 hr hn hs2 hk hE2 t.heap ls (v.toList ++ st') (locs ++ L9) hH2 (a2.ext hE2) (hS2.app (b2.ext hE2)) (ab_vS_call a4 hF hL)
    obtain ⟨t9, z1, z2⟩ := nx T' e1 X'
    exact ⟨t9, go t9 z1, z2⟩
  · obtain ⟨r1, r2⟩ := ab_an hkk
    have r3 : (match (ab_zP Z y).2.2.2 with
          | [] => k 1 e5 [] L G2 h2 (cn + (ab_zP Z y2).2.1) (sn + (ab_zP Z y2).2.2.1)
          | _ :: _ => match ab_han pc e5 (ab_zP Z y).2.2.2 with
            | some g => F y cuts false (ab_dr g (ab_zP Z y).1) L [.inr (.inr 2)] G2 h2 (cn + (ab_zP Z y2).2.1) (sn + (ab_zP Z y2).2.2.1) k
            | none => false) = true := r2
    subst h0
    have hvS := ab_vS_call a4 hF hL
    have thr : ab_WX X t.heap (locs ++ L9) (cn + (ab_zP Z y2).2.1) (sn + (ab_zP Z y2).2.2.1) (F0 (ab_xm X) pc ls st') q := by
      split at r3
      · rename_i hnil
        exact hk 1 e5 [] L G2 h2 _ _ ρ2 r3 hE2 hs2 hnil pc t.heap ls st' (locs ++ L9) q ce hH2 hcell hcv hcl hvS
      · split at r3
        · rename_i g hg
          obtain ⟨pre, x, suf, name, p1, p2, p3, p4, p5, p6, p7⟩ := hc.2.2.2.2.2.2.2.2.2.2.2.2.2 pc e5 g hg
          refine vx_catch hc.2.2.2.1 pre x suf p1 p2 p3 p4 p5 p6 hcell hcv hcl ?_
          exact ab_jp hih hc r3 p7 hs2 hk hE2 t.heap ls [.ref q] (locs ++ L9) hH2 (a2.ext hE2) ⟨Or.inr (Or.inr (Or.inl ⟨rfl, _, rfl⟩)), trivial⟩ hvS
        · cases r3
    obtain ⟨t9, z1, z2⟩ := thr T' e1 X'
    exact ⟨t9, go.trans z1, z2⟩
end C3
