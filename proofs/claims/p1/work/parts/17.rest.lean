/-! STEPS: a throw, rows of rows made at once, a fill, a copy. -/
def ab_E33 (Z : ab_ZT) (y pc x1 : Nat) (ins : Instr) (len : Nat) : Prop := len = 3 ∧ ∃ (names : List String) (ik ic : Nat), ins = .new ik ∧ decode (ab_zCB Z y) (pc + 3) = .ok (.dup, 1) ∧ decode (ab_zCB Z y) (pc + 4) = .ok (.invokespecial ic, 3) ∧ decode (ab_zCB Z y) (pc + 7) = .ok (.athrow, 1) ∧
  Bundle.fit (ab_zEN Z x1) = true ∧ (∀ n ∈ names, Bundle.fit n = true) ∧ (∀ w ∈ Cond.classLink (ab_zY Z y).cls ik (ab_zEN Z x1) :: Cond.initialized (ab_zEN Z x1) :: vx_at0 (ab_zY Z y).cls ic (ab_zEN Z x1) names, vx_ot w = true ∧ (w ∈ ab_zTW Z ∨ w ∈ ab_zNW Z)) ∧
  names.length + 3 < ab_zFR Z y ∧ 40 + (13 * (names.length + 1) + 42) ≤ ab_zLO Z y
def ab_E35 (Z : ab_ZT) (y x1 : Nat) (ins : Instr) (len : Nat) : Prop := len = 4 ∧ (x1 = 3 ∨ x1 = 4) ∧ ∃ i, ins = .multianewarray i 2 ∧ Cond.classLink (ab_zY Z y).cls i ("[" ++ (FieldType.array (ab_et (x1 - 3))).toString) ∈ ab_zTW Z ∧ Cond.arrayClass (ab_et (x1 - 3)) ∈ ab_zTW Z
def ab_E42 (Z : ab_ZT) (y x1 : Nat) (ins : Instr) (len : Nat) : Prop := len = 3 ∧ x1 ≤ 1 ∧ 1 ≤ ab_zFR Z y ∧ 24 ≤ ab_zLO Z y ∧ ∃ i, ins = .invokestatic i ∧ Cond.methodLink (ab_zY Z y).cls i (ab_fillN x1) ∈ ab_zTW Z ∧ Cond.static (ab_fillN x1) ∈ ab_zTW Z ∧ Cond.initialized "java/util/Arrays" ∈ ab_zTW Z ∧ Cond.code (ab_fillN x1) (ab_fillB x1) (ab_fillL x1) none ∈ ab_zTW Z
def ab_E43 (Z : ab_ZT) (y : Nat) (ins : Instr) (len : Nat) : Prop := len = 3 ∧ 1 ≤ ab_zFR Z y ∧ 100 ≤ ab_zLO Z y ∧ ∃ i, ins = .invokestatic i ∧ Cond.methodLink (ab_zY Z y).cls i arraycopyName ∈ ab_zTW Z ∧ Cond.native arraycopyName ∈ ab_zTW Z ∧ Cond.static arraycopyName ∈ ab_zTW Z ∧ Cond.initialized "java/lang/System" ∈ ab_zTW Z
theorem ab_fillK {t : Nat} (ht : t ≤ 1) : (ab_fillN t).cls = "java/util/Arrays" ∧ ∀ sig, parseMethodDescriptor (ab_fillN t).desc = some sig → 2 = sig.parameters.length := by
  have h : (ab_fillN t).cls = "java/util/Arrays" ∧ (parseMethodDescriptor (ab_fillN t).desc).map (fun d => d.parameters.length) = some 2 := by
    rcases (show t = 0 ∨ t = 1 by omega) with rfl | rfl <;> exact ⟨rfl, by decide +kernel⟩
  refine ⟨h.1, fun sig hs => ?_⟩
  have h2 := h.2
  rw [hs] at h2
  exact (Option.some.inj h2).symm
/-- rows of rows made at once: what the library's row says (Shelf42 has it; it is used in the last part alone) -/
def ab_MAH : Prop := ∀ (p : Program) (l : Launch) (e : Env) (R : Room) (s : State) (m : MethodId) (args : Array Value) (below : List Frame) (meth : Method) (c : Code) (T : State) (locs : List Loc) (cells slots : Nat) (own : String) (index t n k pc : Nat) (ls : Array Slot) (rest : List Value), t ≤ 1 → n ≤ 100 → k ≤ 10000 →
  Stand p l e R s m args below meth c T locs cells slots → p.tables.exec = Jvm.exec → s.vm.findClass own = some m.cls → (Cond.classLink own index ("[" ++ (FieldType.array (ab_et t)).toString)).before args s = true → (Cond.arrayOver (.array (ab_et t))).before args s = true → (Cond.arrayClass (ab_et t)).before args s = true →
  decode c.code pc = .ok (.multianewarray index 2, 4) → cells + (1 + n) ≤ R.cells → slots + (n + n * k) ≤ R.slots →
  ∃ (T2 : State) (cA comp : ClassId), s.vm.findClass ("[" ++ (FieldType.array (ab_et t)).toString) = some cA ∧ s.vm.findClass (FieldType.array (ab_et t)).toString = some comp ∧ Stand p l e R s m args below meth c T2 locs (cells + (1 + n)) (slots + (n + n * k)) ∧ T2.heap.size = T.heap.size + (1 + n) ∧ (∀ q : Nat, q < T.heap.size → T2.heap[q]? = T.heap[q]?) ∧
    T2.heap[T.heap.size]? = some (arrV cA n (fun j => if j < n then .ref (T.heap.size + 1 + j) else .null)) ∧ (∀ j : Nat, j < n → T2.heap[T.heap.size + 1 + j]? = some (arrV comp k (fun _ => defaultValue (ab_et t)))) ∧
    ∀ target, Steps p.tables e below (T2.setTop (F0 m (pc + 4) ls (.ref T.heap.size :: rest))) target → Steps p.tables e below (T.setTop (F0 m pc ls (.int (Int32.ofInt (.ofNat k)) :: .int (Int32.ofInt (.ofNat n)) :: rest))) target
theorem ab_many_n (ty b : Nat) (h : ab_H) : ∀ n, (ab_many ty b h n).1 = h.1 + n
  | 0 => rfl
  | n + 1 => congrArg (· + 1) (ab_many_n ty b h n)
theorem ab_many_cl (BS : Nat → Option ab_C) (ty b : Nat) (h : ab_H) (d : Nat) : ∀ n, ab_cl BS (ab_many ty b h n) d = if h.1 ≤ d ∧ d < h.1 + n then some (.inr (ty, b, some (ab_def ty, []))) else ab_cl BS h d
  | 0 => by
    rw [if_neg (by omega)]
    rfl
  | n + 1 => by
    show ab_cl BS (ab_new (ab_many ty b h n) _) d = _
    rw [ab_cl_new, ab_many_n, ab_many_cl BS ty b h d n]
    by_cases e : h.1 + n = d
    · rw [if_pos e, if_pos (by omega)]
    · rw [if_neg e]
      by_cases e2 : h.1 ≤ d ∧ d < h.1 + n
      · rw [if_pos e2, if_pos (by omega)]
      · rw [if_neg e2, if_neg (by omega)]
theorem ab_lk_map {f : Nat → ab_V} : ∀ {l : List Nat} {j : Nat}, j ∈ l → ab_lk (l.map (fun i => (i, f i))) j = some (f j)
  | [], _, h => nomatch h
  | i :: l, j, h => by
    rw [List.map_cons, ab_lk_cons]
    cases hb : Nat.beq i j
    · rcases List.mem_cons.mp h with e | e
      · exact absurd e.symm (Nat.ne_of_beq_eq_false hb)
      · exact ab_lk_map e
    · rw [show i = j from ab_beq hb]
      rfl
section S5
variable {Z : ab_ZT} {U : ab_UT} {F : ab_X} {y : Nat} {X : ab_XT} {ρ : Nat → Int} {cuts : List Nat} {pc : Nat} {A : Int} {x1 x2 : Nat} {Xs : List Nat} {pos rest : List ab_E} {L : ab_L} {S : List ab_V} {G : ab_G} {h : ab_H} {cn sn : Nat} {k : ab_K} {ins : Instr} {len : Nat}
theorem ab_st33 (hGd : ab_Gd Z) (hc : ab_Cx Z U y X) (hs : ab_Sat ρ G) (hk : ab_Hk Z U y X G.1 ρ k) (hd : decode (ab_zCB Z y) pc = .ok (ins, len)) (hE : ab_E33 Z y pc x1 ins len)
    (hx : (match (ab_zP Z y).2.2.2 with
      | [] => bif (bif ab_rm (ab_zP Z) y (cn + 1) (sn + 6) then Nat.ble S.length 20 else false) then k 1 x1 [] L G (ab_new h (.inr (9, 0, none))) (cn + 1) (sn + 6) else false
      | _ :: _ => false) = true) : ab_Go Z U y X ρ G.1 pc S L h cn sn := by
  obtain ⟨rfl, names, ik, ic, rfl, d3, d4, d7, f1, f2, hw, f3, f4⟩ := hE
  split at hx
  · rename_i hnil
    obtain ⟨q1, q2⟩ := ab_an hx
    obtain ⟨q3, q4⟩ := ab_an q1
    obtain ⟨r1, r2⟩ := ab_rm_ok hc q3
    intro H ls st locs a1 a2 a3 a4
    obtain ⟨lv, hlv, hlv2⟩ := a2
    have hwords := a3.words
    have hlen := ab_ble q4
    have hR := hc.2.2.2.2.2.2.2.2.2.2.1
    have ok : ∀ w ∈ Cond.classLink (ab_zY Z y).cls ik (ab_zEN Z x1) :: Cond.initialized (ab_zEN Z x1) :: vx_at0 (ab_zY Z y).cls ic (ab_zEN Z x1) names, w.before (ab_xA X) (ab_xs X) = true := fun w h => by
      rcases (hw w h).2 with h2 | h2
      · exact hc.2.2.2.2.2.2.2.1 _ h2
      · exact va_Nw.use (hGd.2.2.1 _ h2) (hc.2.2.2.2.2.2.2.2.1.2.1 _ h2)
    refine ab_make0 hc.1 hc.2.1 hc.2.2.2.2.2.2.2.2.2.1 hc.2.2.2.1 f1 f2 (ok _ List.mem_cons_self) (ok _ (List.mem_cons_of_mem _ List.mem_cons_self)) (fun w h => ok w (List.mem_cons_of_mem _ (List.mem_cons_of_mem _ h))) (fun w h => (hw w h).1) hc.2.2.2.2.2.2.2.2.1.2.2.2.2.1 hc.2.2.2.2.2.2.2.2.1.2.2.2.2.2.1 a4 (by rw [hc.2.2.1]; exact hlv.1) hd d3 d4 (by rw [hR.1]; exact f3) (by rw [hR.2.1]; omega) r1 r2 (fun H1 ce g1 g2 g3 g4 g5 => ?_)
    refine vx_athrow hc.1 hc.2.1 d7 ?_
    exact hk 1 x1 [] L G _ _ _ ρ q2 (ab_Ext.rf _ _) hs hnil (pc + 7) H1 ls st locs H.size ce (a1.new hc.2.2.2.2.2.2.2.2.2.2.2.1 (Or.inl ⟨by decide, by unfold ab_RW; rw [if_neg (by decide)]; exact ⟨ce, g1⟩⟩) g4 g5) g1 g2 g3 (ab_vS_new a4 g4 g5)
  · cases hx
theorem ab_st35 (hMA : ab_MAH) (hGd : ab_Gd Z) (hih : ab_Ok Z U F) (hc : ab_Cx Z U y X) (hs : ab_Sat ρ G) (hk : ab_Hk Z U y X G.1 ρ k) (hd : decode (ab_zCB Z y) pc = .ok (ins, len)) (hr : ∃ i, rest = ab_dr i (ab_zP Z y).1) (hn : ∀ e r, rest = e :: r → e.1 = pc + len) (hE : ab_E35 Z y x1 ins len)
    (hx : ab_i35 x1 S h (fun S' h' a b => bif ab_rm (ab_zP Z) y (cn + a) (sn + b) then F y cuts false rest L S' G h' (cn + a) (sn + b) k else false) = true) : ab_Go Z U y X ρ G.1 pc S L h cn sn := by
  obtain ⟨rfl, ht, i, rfl, w1, w2⟩ := hE
  unfold ab_i35 at hx
  split at hx
  · rename_i b0 a0 S'
    obtain ⟨q1, q2⟩ := ab_an hx
    obtain ⟨q3, q4⟩ := ab_an q1
    obtain ⟨q5, q6⟩ := ab_an q2
    obtain ⟨r1, r2⟩ := ab_rm_ok hc q5
    intro H ls st locs a1 a2 a3 a4
    obtain ⟨x, st1, rfl, ⟨rfl, b3, b4⟩, b5⟩ := a3.cons
    obtain ⟨x', st2, rfl, ⟨rfl, d3, d4⟩, c5⟩ := b5.cons
    have hTW := hc.2.2.2.2.2.2.2.1
    have hK := hc.2.2.2.2.2.2.2.2.1.1
    have hov : (Cond.arrayOver (.array (ab_et (x1 - 3)))).before (ab_xA X) (ab_xs X) = true := by
      rcases ht with rfl | rfl
      · exact hc.2.2.2.2.2.2.2.2.1.2.2.2.2.2.2.1
      · exact hc.2.2.2.2.2.2.2.2.1.2.2.1
    intro T hT XT
    subst hT
    obtain ⟨T2, cA, comp, fA, fC, XT2, z1, z2, z3, z4, go⟩ := hMA _ _ _ _ _ _ _ _ _ _ T locs cn sn (ab_zY Z y).cls i (x1 - 3) a0 b0 pc ls st2 (by omega) (ab_ble q3) (ab_ble q4) XT hc.1 hc.2.2.2.1 (hTW _ w1) hov (hTW _ w2) (by rw [hc.2.1]; exact hd) r1 r2
    have hcls : cA = U.2.1 x1 ∧ comp = U.2.1 (x1 - 3) := by
      rcases ht with rfl | rfl
      · exact ⟨Option.some.inj (fA.symm.trans (hK.2 3 _ rfl).2), Option.some.inj (fC.symm.trans (hK.2 0 _ rfl).2)⟩
      · exact ⟨Option.some.inj (fA.symm.trans (hK.2 4 _ rfl).2), Option.some.inj (fC.symm.trans (hK.2 1 _ rfl).2)⟩
    obtain ⟨rfl, rfl⟩ := hcls
    have ha := a1.addr
    have hh1 := a1.1
    have hsz := a1.2.1
    have had : ∀ d : Nat, 1 ≤ d → ab_ad U.2.2.1 U.2.2.2 d = U.2.2.2 + (d - 1) := fun d h1 => by
      cases d with
      | zero => omega
      | succ q => rfl
    have hq4 := ab_ble q4
    have hq3 := ab_ble q3
    have hH' : ab_rH Z U G.1 ρ (ab_many (x1 - 3) b0 (ab_new h (.inr (x1, a0, some (.inr (.inr 0), (List.range a0).map (fun i => (i, .inr (.inl (h.1 + 1 + i)))))))) a0) T2.heap := by
      refine ⟨?_, ?_, fun d x hd9 => ?_⟩
      · rw [ab_many_n]
        show 1 ≤ h.1 + 1 + a0
        omega
      · rw [ab_many_n, z1]
        show T.heap.size + (1 + a0) = U.2.2.2 + (h.1 + 1 + a0 - 1)
        omega
      · rw [ab_many_cl, ab_cl_new] at hd9
        rw [ab_many_n]
        show d < h.1 + 1 + a0 ∧ _
        by_cases e1 : h.1 + 1 ≤ d ∧ d < h.1 + 1 + a0
        · have hd9 : (if h.1 + 1 ≤ d ∧ d < h.1 + 1 + a0 then some (.inr (x1 - 3, b0, some (ab_def (x1 - 3), []))) else (if h.1 = d then _ else ab_cl (ab_zBS Z) h d)) = some x := hd9
          rw [if_pos e1] at hd9
          cases hd9
          refine ⟨e1.2, ?_⟩
          rw [had d (by omega), show U.2.2.2 + (d - 1) = T.heap.size + 1 + (d - (h.1 + 1)) by omega, z4 _ (by omega)]
          exact ab_RC_row.mpr (Or.inr ⟨by omega, by omega, _, rfl, fun j hj => ⟨ab_ty_def, ab_def_ok (b := U.2.2.1) (B := U.2.2.2) (n := G.1) (ρ := ρ) (t := x1 - 3) (ty := ab_et (x1 - 3)) (ab_et_tk (by omega))⟩⟩)
        · have hd9 : (if h.1 + 1 ≤ d ∧ d < h.1 + 1 + a0 then some (.inr (x1 - 3, b0, some (ab_def (x1 - 3), []))) else (if h.1 = d then _ else ab_cl (ab_zBS Z) h d)) = some x := hd9
          rw [if_neg e1] at hd9
          by_cases e2 : h.1 = d
          · rw [if_pos e2] at hd9
            cases hd9
            subst e2
            refine ⟨by omega, ?_⟩
            rw [ha, z3]
            refine ab_RC_row.mpr (Or.inr ⟨by omega, by omega, _, rfl, fun j hj => ⟨?_, ?_⟩⟩)
            · rcases ht with rfl | rfl <;> exact trivial
            · show ab_RV _ _ _ _ (ab_el (.inr (.inr 0)) ((List.range a0).map (fun i => (i, .inr (.inl (h.1 + 1 + i))))) j) _
              unfold ab_el
              rw [ab_lk_map (f := fun i => .inr (.inl (h.1 + 1 + i))) (List.mem_range.mpr hj), if_pos hj]
              show Value.ref _ = Value.ref _
              rw [had _ (by omega)]
              exact congrArg Value.ref (show (T.heap.size + 1 + j : Nat) = U.2.2.2 + (h.1 + 1 + j - 1) by omega)
          · rw [if_neg e2] at hd9
            have h3 := a1.2.2 d x hd9
            refine ⟨by omega, ?_⟩
            have hlt : ab_ad U.2.2.1 U.2.2.2 d < T.heap.size := by
              have hbB := hc.2.2.2.2.2.2.2.2.2.2.2.1
              rcases Nat.eq_zero_or_pos d with e3 | e3
              · subst e3
                show U.2.2.1 < _
                omega
              · rw [had d e3]
                have := h3.1
                omega
            rw [z2 _ hlt]
            exact h3.2
    obtain ⟨t9, y1, y2⟩ := ab_nx hih hc q6 hr hn hs hk (ab_Ext.rf _ _) T2.heap ls (.ref T.heap.size :: st2) locs hH' a2 ⟨(by show Value.ref T.heap.size = .ref _; rw [ha]), c5⟩ (ab_vS_new a4 z1 z2) T2 rfl XT2
    exact ⟨t9, go t9 y1, y2⟩
  · cases hx
theorem ab_st42 (hGd : ab_Gd Z) (hih : ab_Ok Z U F) (hc : ab_Cx Z U y X) (hs : ab_Sat ρ G) (hk : ab_Hk Z U y X G.1 ρ k) (hd : decode (ab_zCB Z y) pc = .ok (ins, len)) (hr : ∃ i, rest = ab_dr i (ab_zP Z y).1) (hn : ∀ e r, rest = e :: r → e.1 = pc + len) (hE : ab_E42 Z y x1 ins len)
    (hx : ab_i42 (ab_zBS Z) x1 S G h (fun S' h' => bif ab_rm (ab_zP Z) y cn sn then F y cuts false rest L S' G h' cn sn k else false) = true) : ab_Go Z U y X ρ G.1 pc S L h cn sn := by
  obtain ⟨rfl, ht, f1, f2, i, rfl, w1, w2, w3, w4⟩ := hE
  unfold ab_i42 at hx
  split at hx
  · rename_i v c S'
    split at hx
    · rename_i tz n ct hcl
      obtain ⟨q1, q2⟩ := ab_an hx
      obtain ⟨q5, q6⟩ := ab_an q1
      have et : x1 = tz := ab_beq q5
      subst et
      rcases ab_if q6 with ⟨_, q⟩ | ⟨q0, q6⟩
      · cases q
      rcases ab_if q6 with ⟨_, q⟩ | ⟨q7, q6⟩
      · cases q
      obtain ⟨q8, q9⟩ := ab_an q6
      have hc0 : c ≠ 0 := Nat.ne_of_beq_eq_false q0
      intro H ls st locs a1 a2 a3 a4
      obtain ⟨x, st1, rfl, b1, b5⟩ := a3.cons
      obtain ⟨x2', st3, rfl, e1, e5⟩ := b5.cons
      have ex : x2' = .ref (ab_ad U.2.2.1 U.2.2.2 c) := e1
      subst ex
      rcases ab_RC_row.mp (a1.2.2 _ _ hcl).2 with ⟨g, _⟩ | ⟨g1, g2, zf, g3, g4⟩
      · omega
      have hxt : ab_ty x1 x := ab_fit_ty hs (by omega) b1 q9
      have hxv : ab_tyv x1 x := by
        rcases (show x1 = 0 ∨ x1 = 1 by omega) with e | e <;> (subst e; exact hxt)
      obtain ⟨lv, hlv, hlv2⟩ := a2
      have hwords := e5.words
      have hlen := ab_ble q8
      have hTW := hc.2.2.2.2.2.2.2.1
      have hK := hc.2.2.2.2.2.2.2.2.1.1
      have hR := hc.2.2.2.2.2.2.2.2.2.2.1
      obtain ⟨k1, k2⟩ := ab_fillK ht
      have hmet := ab_fillM (l := X.2.1) (D := U.1) (cl := ab_zcl Z) (dA := U.2.1) (a := ab_ad U.2.2.1 U.2.2.2 c) (H0 := H) ht hxv g2
      obtain ⟨q11, q2⟩ := ab_an q2
      have hroom := ab_rm_ok hc q11
      · have hrun := va_runS (H := H) (locs := locs) (cells := cn) (slots := sn) (Ts := ab_zTW Z) (own := (ab_zY Z y).cls) (e := X.2.2.1) (below := X.2.2.2.2.2.2.2.1) (meth := ab_xM X) ⟨hc.1, hc.2.1, hc.2.2.1, hc.2.2.2.1, hTW⟩ hmet (R := ab_xR X) (index := i) (n := 2) (bytes := ab_fillB x1) (maxL := ab_fillL x1) (ret := none)
          ⟨⟨rfl, rfl, by rw [hR.1]; exact f1, by
            rw [hR.2.1]
            have : ab_fillL x1 ≤ 5 := by
              rcases (show x1 = 0 ∨ x1 = 1 by omega) with e | e <;> (subst e; decide)
            show 8 + (ab_fillL x1 + 11) + 0 ≤ _
            omega, pay_in hTW (fun w hw => by
            rw [List.mem_singleton.mp hw]
            exact ⟨w4, hGd.1 _ w4⟩), List.mem_cons_self, hTW _ w4, by rw [k1]; exact hTW _ w3, by rw [k1]; decide, k2, hTW _ w1⟩, hTW _ w2⟩
          ⟨fun a t g mk hP => ⟨hP.1, va_K.moved (State.WarmedH.refl t).alike hP.2.1, hP.2.2⟩, fun t ht9 hW => ⟨rfl, va_K.moved hW.alike hK, ht9, rfl, zf, by rw [ht9]; exact g3⟩⟩
          (g := F0 (ab_xm X) pc ls (x :: .ref (ab_ad U.2.2.1 U.2.2.2 c) :: st3)) rfl rfl hlv.1 (rest := st3) rfl (by show 2 * 0 + _ ≤ 8; omega) hd hroom
        refine va_callv (A0 := ab_nA U) (H0 := (ab_xs X).heap) hrun a4 (fun q _ e => by rw [e]; exact ab_ad_new hc0) (fun q e => by rw [e]; exact ab_ad_new hc0) (fun u t9 H1 locs1 h1 hal _ hB hz hkk hV => ?_)
        obtain ⟨⟨z, z1, z2⟩, z3, z4⟩ := hB
        refine ab_nx hih hc q2 hr hn hs hk (ab_Ext.rf _ _) H1 ls st3 locs1 (a1.put hc.2.2.2.2.2.2.2.2.2.2.2.1 hcl (ab_RC_row.mpr (Or.inr ⟨g1, g2, z, by rw [← h1]; exact z1, fun j hj => ⟨by rw [z2 j hj]; exact hxt, ?_⟩⟩)) (by rw [← h1]; exact z3) (fun q hq => by rw [← h1]; exact z4 q hq)) ⟨lv, hlv, hlv2⟩ e5 hV
        rw [z2 j hj]
        show ab_RV _ _ _ _ (ab_nmV G v) x
        exact ab_RV.nm hs b1
    · cases hx
  · cases hx
theorem ab_st43 (hGd : ab_Gd Z) (hih : ab_Ok Z U F) (hc : ab_Cx Z U y X) (hs : ab_Sat ρ G) (hk : ab_Hk Z U y X G.1 ρ k) (hd : decode (ab_zCB Z y) pc = .ok (ins, len)) (hr : ∃ i, rest = ab_dr i (ab_zP Z y).1) (hn : ∀ e r, rest = e :: r → e.1 = pc + len) (hE : ab_E43 Z y ins len)
    (hx : ab_i43 (ab_zBS Z) S G h (fun S' h' => F y cuts false rest L S' G h' cn sn k) = true) : ab_Go Z U y X ρ G.1 pc S L h cn sn := by
  obtain ⟨rfl, f1, f2, i, rfl, w1, w2, w3, w4⟩ := hE
  unfold ab_i43 at hx
  split at hx
  · rename_i m0 j0 d i0 c S'
    split at hx
    · rename_i tz n ct tw n2 ct2 hcl hcl2
      obtain ⟨q1, q2⟩ := ab_an hx
      obtain ⟨q3, q4⟩ := ab_an q1
      obtain ⟨q5, q6⟩ := ab_an q3
      have et : tz = tw := ab_beq q5
      subst et
      obtain ⟨q7, q8⟩ := ab_an q6
      rcases ab_if q8 with ⟨_, q⟩ | ⟨q9, q8⟩
      · cases q
      rcases ab_if q8 with ⟨_, q⟩ | ⟨q10, q8⟩
      · cases q
      obtain ⟨p1, q4⟩ := ab_an q4
      obtain ⟨p2, q4⟩ := ab_an q4
      obtain ⟨p3, q4⟩ := ab_an q4
      obtain ⟨p4, p5⟩ := ab_an q4
      have hd0 : d ≠ 0 := Nat.ne_of_beq_eq_false q9
      have ht := ab_ble q7
      intro H ls st locs a1 a2 a3 a4
      obtain ⟨x, st1, rfl, ⟨rfl, b3, b4⟩, b5⟩ := a3.cons
      obtain ⟨x', st2, rfl, ⟨rfl, d3, d4⟩, c5⟩ := b5.cons
      obtain ⟨x2, st3, rfl, e1, e5⟩ := c5.cons
      have ex : x2 = .ref (ab_ad U.2.2.1 U.2.2.2 d) := e1
      subst ex
      obtain ⟨x3, st4, rfl, ⟨rfl, g3, g4⟩, g5⟩ := e5.cons
      obtain ⟨x4, st5, rfl, k1, k5⟩ := g5.cons
      have ex : x4 = .ref (ab_ad U.2.2.1 U.2.2.2 c) := k1
      subst ex
      rcases ab_RC_row.mp (a1.2.2 _ _ hcl).2 with ⟨g, _⟩ | ⟨s1, s2, zf, s3, s4⟩
      · omega
      rcases ab_RC_row.mp (a1.2.2 _ _ hcl2).2 with ⟨g, _⟩ | ⟨t1, t2, zg, t3, t4⟩
      · omega
      have vm := ab_iv_ok hs b4
      have vj := ab_iv_ok hs d4
      have vi := ab_iv_ok hs g4
      have p1 := (ab_le_iff _ _).mp p1
      have p2 := (ab_le_iff _ _).mp p2
      have p3 := (ab_le_iff _ _).mp p3
      have p4 := (ab_le_iff _ _).mp p4
      have p5 := (ab_le_iff _ _).mp p5
      have e9 : Int.ofNat n = (n : Int) := rfl
      have e8 : Int.ofNat n2 = (n2 : Int) := rfl
      obtain ⟨lv, hlv, hlv2⟩ := a2
      have hTW := hc.2.2.2.2.2.2.2.1
      have hK := hc.2.2.2.2.2.2.2.2.1.1
      have hR := hc.2.2.2.2.2.2.2.2.2.2.1
      have hwords := k5.words
      have hlen := ab_ble q8
      have hnw : nativeFrameWords "java/lang/System" "arraycopy" 5 ≤ 10 := by decide +kernel
      refine ab_copy hc.1 hc.2.1 (hlv.1.trans hc.2.2.1.symm) hc.2.2.2.1 (hTW _ w1) (hTW _ w2) (hTW _ w3) (hTW _ w4) hK ht s3 t3 (fun j hj => (s4 j hj).1) g3 d3 b3 (by omega) (by omega) (by omega) (by omega) (by omega) (by rw [hR.1]; exact f1) (by rw [hR.2.1]; omega) hd (fun H1 L9 r1 r2 r3 r4 => ?_)
      refine ab_nx hih hc q2 hr hn hs hk (ab_Ext.rf _ _) H1 ls st5 (locs ++ L9) (a1.put hc.2.2.2.2.2.2.2.2.2.2.2.1 hcl2 (ab_RC_row.mpr (Or.inr ⟨t1, t2, _, r1, fun j hj => ⟨?_, trivial⟩⟩)) r2 r3) ⟨lv, hlv, hlv2⟩ k5 ⟨by rw [r2]; exact a4.1, fun q h1 h2 => by
        rw [r3 q (fun e => h2 (by rw [e]; exact ab_ad_new hd0))]
        exact a4.2.1 q h1 h2, fun q hq => (List.mem_append.mp hq).elim (a4.2.2 q) (fun h => by rw [r4 q h]; exact ab_ad_new hd0)⟩
      unfold va_cpy
      split
      · exact (s4 _ (by omega)).1
      · exact (t4 j hj).1
    · cases hx
  · cases hx
end S5
