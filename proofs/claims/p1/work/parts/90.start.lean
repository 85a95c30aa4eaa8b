/-! FROM THE ENTRY TO THE END. -/
theorem abShort : ∀ L, L < 8 → ab_run (fun _ => none) abP abNF (fun _ _ => none) 20000 0 [] true (abP 0).1 [(0, .inr (.inl 0))] [] abG0 (1, [(0, abSC L)]) 0 0 abKfin = true
  | 0, _ => by
    rw [← ab_runF_eq]
    exact abShort0
  | 1, _ => by
    rw [← ab_runF_eq]
    exact abShort1
  | 2, _ => by
    rw [← ab_runF_eq]
    exact abShort2
  | 3, _ => by
    rw [← ab_runF_eq]
    exact abShort3
  | 4, _ => by
    rw [← ab_runF_eq]
    exact abShort4
  | 5, _ => by
    rw [← ab_runF_eq]
    exact abShort5
  | 6, _ => by
    rw [← ab_runF_eq]
    exact abShort6
  | 7, _ => by
    rw [← ab_runF_eq]
    exact abShort7
  | _ + 8, h => absurd h (by omega)
theorem abAt0 : (match ab_dr 0 (abP 0).1 with
    | [] => true
    | e :: _ => Nat.beq e.1 0) = true := by decide +kernel
theorem abPc0 : ∀ e r, ab_dr 0 (abP 0).1 = e :: r → e.1 = 0 := fun e r he => by
  have h := abAt0
  rw [he] at h
  exact ab_beq h
theorem abAt23 : (match ab_dr 13 (abP 0).1 with
    | [] => true
    | e :: _ => Nat.beq e.1 23) = true := by decide +kernel
theorem abPc23 : ∀ e r, ab_dr 13 (abP 0).1 = e :: r → e.1 = 23 := fun e r he => by
  have h := abAt23
  rw [he] at h
  exact ab_beq h
theorem abAt40 : (match ab_dr 24 (abP 0).1 with
    | [] => true
    | e :: _ => Nat.beq e.1 40) = true := by decide +kernel
theorem abPc40 : ∀ e r, ab_dr 24 (abP 0).1 = e :: r → e.1 = 40 := fun e r he => by
  have h := abAt40
  rw [he] at h
  exact ab_beq h
theorem abCtor2 : ab_run (fun _ => none) abP abNF (fun _ _ => none) 20000 0 [23] true (abP 0).1 [(0, .inr (.inl 0))] [] abG0 (1, [(0, abSC 8)]) 0 0 abK23 = true := by
  rw [← ab_runF_eq]
  exact abCtor
theorem abCut2 : ab_run abBS abP abNF (fun _ _ => none) 100 0 [40] true (ab_dr 13 (abP 0).1) abL0 [] abG0 abH0 489 917392 abK40 = true := by
  rw [← ab_runF_eq]
  exact abCut
theorem abGo_run {l : List ((Nat × Nat) × ab_B)} {cs : List (Nat × Int × Int)} (h : abGo l cs = true) : ab_run abBS abP abNF (abHSf l) 1000000 0 [] true (ab_dr 24 (abP 0).1) abL0 [.inl (.inl (.inr 8))] (abGs cs) abH0 489 917392 abKfin = true := by
  rw [← ab_runF_eq]
  exact h
theorem abGoG_run {G : ab_G} (h : abGoG G = true) : ab_run abBS abP abNF (fun _ _ => none) 1000000 0 [] true (ab_dr 24 (abP 0).1) abL0 [.inl (.inl (.inr 8))] G abH0 489 917392 abKfin = true := by
  rw [← ab_runF_eq]
  exact h
section GO
variable {p : Program} {e : Env} {s : State} {m : MethodId} {below : List Frame} {meth : Method} {c : Code} {l : Launch} {b : Nat} {Q : State → Prop}
/-- the law's frame -/
theorem ab_law_cx {U : ab_UT} (hl : l.stackTraces = false) (hx : p.tables.exec = Jvm.exec) (hb : c.code = code) (hr : meth.sig.returnType = ret) (hml : c.maxLocals = 8) (hown : s.vm.findClass "TimberHouseLaw" = some m.cls) (hts : ∀ w ∈ lw_tbl, w.before #[Value.ref b] s = true) (hlocks : meth.locks = false) (hnm : meth.name = "law") (htab : c.exceptionTable.toList = [])
    (hKH : ab_KH (abZ (fun _ _ => none) (fun _ => none)) U s) (hU : U.2.2.1 < U.2.2.2) (HS : Nat → Nat → Option ab_B) (BS : Nat → Option ab_C) : ab_Cx (abZ HS BS) U 0 (p, l, e, room_1, s, m, #[Value.ref b], below, meth, c, Q) := by
  refine ⟨hx, hb, hml, hown, hnm, hr, hlocks, fun w hw => hts w (List.mem_filter.mp hw).1, hKH, hl, ⟨rfl, rfl, rfl, rfl⟩, hU, fun _ x hx9 => ?_, fun pc e9 g hg => ?_⟩
  · have h9 : x ∈ c.exceptionTable.toList := hx9
    rw [htab] at h9
    cases h9
  · have h9 : ab_han pc e9 (abP 0).2.2.2 = some g := hg
    have h8 : (abP 0).2.2.2 = [] := rfl
    rw [h8] at h9
    cases h9
/-- the law's end -/
theorem ab_law_fin {U : ab_UT} (hB : U.2.2.2 = s.heap.size) (hfin : ∀ (pc : Nat) (H : Heap) (ls : Array Slot) (locs : List Loc), decode code pc = .ok (.ireturn, 1) → (∀ q ∈ locs, s.heap.size ≤ q.base) → W p l e room_1 s m #[Value.ref b] below meth c H locs 600002 7302231 Q (F0 m pc ls [.int 1]))
    (HS : Nat → Nat → Option ab_B) (BS : Nat → Option ab_C) (n : Nat) (ρ : Nat → Int) : ab_Hk (abZ HS BS) U 0 (p, l, e, room_1, s, m, #[Value.ref b], below, meth, c, Q) n ρ abKfin := by
  intro kd a S2 L2 G2 h2 cn2 sn2 ρ2 hk e1 e2
  unfold abKfin at hk
  obtain ⟨q1, q2⟩ := ab_an hk
  have ek : kd = 0 := ab_beq q1
  subst ek
  split at q2
  · rename_i v
    obtain ⟨q3, q4⟩ := ab_an q2
    obtain ⟨q5, q6⟩ := ab_an q4
    have ev := ab_veq_iff q3
    subst ev
    intro ins pc H ls st locs hd hkr hH hS hV
    obtain ⟨x, st1, rfl, ⟨rfl, -, -⟩, b5⟩ := hS.cons
    have e5 := b5.nil
    subst e5
    have hins : ins = .ireturn := by
      unfold ab_kr at hkr
      split at hkr
      · have h9 : (some FieldType.boolean : Option FieldType) = none := hkr.1
        cases h9
      · rfl
      · have h9 : (some FieldType.boolean : Option FieldType) = some .long := hkr.1
        cases h9
      · obtain ⟨⟨rt, h9, h8⟩, -⟩ := hkr
        have h9 : (some FieldType.boolean : Option FieldType) = some rt := h9
        cases h9
        rcases h8 with ⟨n, h8⟩ | ⟨t, h8⟩ <;> cases h8
      · exact hkr.elim
    subst hins
    exact W.widen (ab_ble q5) (ab_ble q6) (hfin pc H ls locs hd (fun q hq => by
      have h9 : U.2.2.2 ≤ q.base := hV.2.2 q hq
      rw [hB] at h9
      exact h9))
  · cases q2
theorem ab_law_rH {U : ab_UT} {L : Nat} {xs : Nat → Int32} {scr : Cell} (hL : L ≤ 8) (h8 : U.2.1 8 = scr.cls) (hb : U.2.2.1 = b) (hB : U.2.2.2 = s.heap.size) (x1 : s.heap[b]? = some scr) (x2 : s.isArrayOf scr .int) (x3 : scr.vm ≠ .unknown) (x4 : scr.slots.size = L) (x5 : ∀ j : Nat, j < L → scr.slots[j]? = some (.int (xs j))) :
    ab_rH (abZ (fun _ _ => none) (fun _ => none)) U 8 (fun j => (xs j).toInt) (1, [(0, abSC L)]) s.heap := by
  refine ⟨Nat.le_refl _, hB.symm, fun d x hd => ?_⟩
  unfold ab_cl at hd
  by_cases e : 0 = d
  · subst e
    rw [ab_lk_self] at hd
    cases hd
    refine ⟨Nat.zero_lt_one, ?_⟩
    have e9 : s.heap[U.2.2.1]? = some scr := by rw [hb]; exact x1
    show ab_RC _ _ _ _ _ _ _ _ _ (abSC L) s.heap[U.2.2.1]?
    rw [e9]
    exact ab_sSC (Z := abZ (fun _ _ => none) (fun _ => none)) hL h8 x3 x2.1 x4 x5
  · rw [ab_lk_ne _ _ e] at hd
    cases hd
theorem ab_law_K23 (hAx : ab_Ax) {U : ab_UT} {xs : Nat → Int32} (hCx : ∀ HS BS, ab_Cx (abZ HS BS) U 0 (p, l, e, room_1, s, m, #[Value.ref b], below, meth, c, Q)) (hFin : ∀ HS BS n ρ, ab_Hk (abZ HS BS) U 0 (p, l, e, room_1, s, m, #[Value.ref b], below, meth, c, Q) n ρ abKfin) :
    ab_Hk (abZ (fun _ _ => none) (fun _ => none)) U 0 (p, l, e, room_1, s, m, #[Value.ref b], below, meth, c, Q) 8 (fun j => (xs j).toInt) abK23 := by
  have hHk40 : ∀ ρ2, ab_Hk (abZ (fun _ _ => none) abBS) U 0 (p, l, e, room_1, s, m, #[Value.ref b], below, meth, c, Q) 8 ρ2 abK40 := by
    intro ρ2 kd a S2 L2 G2 h2 cn2 sn2 ρ3 hk e1 e2
    unfold abK40 at hk
    obtain ⟨k1, hk⟩ := ab_an hk
    obtain ⟨k2, k3⟩ := ab_an k1
    have ek : kd = 2 := ab_beq k2
    have ea : a = 40 := ab_beq k3
    subst ek
    subst ea
    obtain ⟨rfl, rfl, rfl, rfl, rfl, rfl⟩ := ab_k40_ok hk
    rcases ab_all_cs e2 with ⟨lh, cs, g1, g2⟩ | ⟨h1, h8⟩ | ⟨G9, ρ9, g1, g2, g3⟩
    · obtain ⟨g3, g4⟩ := abGs_ok e2 cs g2
      have go := ab_run_ok (Z := abZ (abHSf lh) abBS) (U := U) hAx (abTb (abHSf lh) abBS abBS_ok) 1000000 0 [] true (ab_dr 24 (abP 0).1) abL0 [.inl (.inl (.inr 8))] (abGs cs) abH0 489 917392 abKfin (abGo_run g1) ⟨24, rfl⟩ _ ρ3 (hCx _ _) g3 (hFin _ _ _ _) 40 abPc40
      rw [g4] at go
      exact go
    · obtain ⟨g3, g4⟩ := abGs_ok e2 [(1, .ofNat 611, .ofNat 611), (8, .ofNat 0, .ofNat 0)] (fun q hq => by
        rcases List.mem_cons.mp hq with rfl | hq
        · exact ⟨(show (1 : Nat) < 9 by decide), Int.le_of_eq h1.symm, Int.le_of_eq h1⟩
        rcases List.mem_cons.mp hq with rfl | hq
        · exact ⟨(show (8 : Nat) < 9 by decide), Int.le_of_eq h8.symm, Int.le_of_eq h8⟩
        cases hq)
      have go := abm_r_ok (U := U) hAx abm_tb (abm_all hAx) 200000 0 [] true (ab_dr 24 (abP 0).1) abL0 [.inl (.inl (.inr 8))] (abGs [(1, .ofNat 611, .ofNat 611), (8, .ofNat 0, .ofNat 0)]) abH0 489 917392 abKfin abm_611 ⟨24, rfl⟩ _ ρ3 (hCx _ _) g3 (hFin _ _ _ _) 40 abPc40
      rw [g4] at go
      exact go
    · have go := ab_run_ok (Z := abZ (fun _ _ => none) abBS) (U := U) hAx abm_tb 1000000 0 [] true (ab_dr 24 (abP 0).1) abL0 [.inl (.inl (.inr 8))] G9 abH0 489 917392 abKfin (abGoG_run g3) ⟨24, rfl⟩ _ ρ9 (hCx _ _) g2 (hFin _ _ _ _) 40 abPc40
      intro H ls st locs b1 b2 b3 b4
      exact go H ls st locs (b1.ext g1) (b2.ext g1) (b3.ext g1) b4
  have go2 : ∀ ρ2, ab_Sat ρ2 abG0 → ab_Go (abZ (fun _ _ => none) abBS) U 0 (p, l, e, room_1, s, m, #[Value.ref b], below, meth, c, Q) ρ2 8 23 [] abL0 abH0 489 917392 := fun ρ2 hs =>
    ab_run_ok (Z := abZ (fun _ _ => none) abBS) (U := U) hAx (abTb (fun _ _ => none) abBS abBS_ok) 100 0 [40] true (ab_dr 13 (abP 0).1) abL0 [] abG0 abH0 489 917392 abK40 abCut2 ⟨13, rfl⟩ _ ρ2 (hCx _ _) hs (hHk40 ρ2) 23 abPc23
  intro kd a S2 L2 G2 h2 cn2 sn2 ρ2 hk e1 e2
  unfold abK23 at hk
  obtain ⟨k1, w1⟩ := ab_an hk
  obtain ⟨k2, k3⟩ := ab_an k1
  obtain ⟨k4, w2⟩ := ab_an w1
  obtain ⟨k5, k6⟩ := ab_an k4
  obtain ⟨k7, k8⟩ := ab_an k6
  obtain ⟨k9, k10⟩ := ab_an k8
  obtain ⟨k11, k12⟩ := ab_an k10
  obtain ⟨m1, w3⟩ := ab_an w2
  obtain ⟨m2, m3⟩ := ab_an w3
  clear hk w1 w2 w3 k1 k4 k6 k8 k10
  have ek : kd = 2 := ab_beq k2
  have ea : a = 23 := ab_beq k3
  clear k2 k3
  subst ek
  subst ea
  have eS : S2 = [] := List.isEmpty_iff.mp k5
  subst eS
  have eG : G2.1 = 8 := ab_beq k7
  have eh : h2.1 = 490 := ab_beq k9
  have m2' : ab_lk h2.2 0 = some (abSC 8) := ab_sce_ok m2
  intro H ls st locs b1 b2 b3 b4
  have est := b3.nil
  subst est
  rw [eG] at b1 b2
  refine W.widen (ab_ble k11) (ab_ble k12) ?_
  refine go2 ρ2 (abG0_sat2 (xs := xs) (fun i hi => e1.2 i hi)) H ls [] locs ⟨by decide, ?_, fun d x hd => ?_⟩ ?_ trivial b4
  · have h9 := b1.2.1
    rw [eh] at h9
    exact h9
  · unfold ab_cl at hd
    by_cases e0 : 0 = d
    · subst e0
      have e9 : ab_lk abH0.2 0 = some (abSC 8) := rfl
      rw [e9] at hd
      cases hd
      have h9 := b1.2.2 0 (abSC 8) (by unfold ab_cl; rw [m2'])
      exact ⟨by decide, h9.2⟩
    · have e9 : ab_lk abH0.2 d = none := by
        show ab_lk [(0, abSC 8)] d = none
        rw [ab_lk_ne _ _ e0]
        rfl
      rw [e9] at hd
      have hd : abBS d = some x := hd
      obtain ⟨d1, d2⟩ := abBS_lt d x hd
      obtain ⟨d0, rfl⟩ : ∃ d0, d = d0 + 1 := ⟨d - 1, by omega⟩
      have h7 := ab_all_mem m3 d0 (List.mem_range.mpr (by omega))
      rw [hd] at h7
      cases hlk : ab_lk h2.2 (d0 + 1) with
      | none => rw [hlk] at h7; cases h7
      | some y9 =>
        rw [hlk] at h7
        have h9 := b1.2.2 (d0 + 1) y9 (by unfold ab_cl; rw [hlk])
        exact ⟨d2, ab_cm_ok h7 h9.2⟩
  · obtain ⟨lv, hlv, hlv2⟩ := b2
    refine ab_RL_of hlv.1 hlv.2.1 abL0 (fun q hq => ?_)
    have h7 := ab_all_mem m1 q hq
    cases hlk : ab_lk L2 q.1 with
    | none => rw [hlk] at h7; cases h7
    | some v9 =>
      rw [hlk] at h7
      have h6 : q.2 = v9 := ab_veq_iff h7
      rw [h6]
      exact ab_RL.get (L := L2) ⟨lv, hlv, hlv2⟩ hlk
theorem ab_law_go (hAx : ab_Ax) {L : Nat} {xs : Nat → Int32} (hL : L ≤ 8) (hl : l.stackTraces = false) (hx : p.tables.exec = Jvm.exec) (hb : c.code = code) (hr : meth.sig.returnType = ret) (hml : c.maxLocals = 8) (hown : s.vm.findClass "TimberHouseLaw" = some m.cls) (hts : ∀ w ∈ lw_tbl, w.before #[Value.ref b] s = true) (hX : va_X b L xs s s.heap) (hbl : b < s.heap.size) (hlocks : meth.locks = false)
    (hgv : (Jvm.Cond.and given_1 narrow_1).before #[Value.ref b] s = true) (hnm : meth.name = "law") (htab : c.exceptionTable.toList = []) (hfin : ∀ (pc : Nat) (H : Heap) (ls : Array Slot) (locs : List Loc), decode code pc = .ok (.ireturn, 1) → (∀ q ∈ locs, s.heap.size ≤ q.base) → W p l e room_1 s m #[Value.ref b] below meth c H locs 600002 7302231 Q (F0 m pc ls [.int 1])) :
    W p l e room_1 s m #[Value.ref b] below meth c s.heap [] 0 0 Q (entryFrame m ([Value.ref b] : List Value).toArray 8) := by
  obtain ⟨scr, x1, x2, x3, x4, x5⟩ := hX
  obtain ⟨U, hKH, h8, hUb, hUB⟩ := ab_sKH (b := b) (L := L) (xs := xs) (fun _ _ => none) (fun _ => none) hts hgv x2
  have hU : U.2.2.1 < U.2.2.2 := by rw [hUb, hUB]; exact hbl
  have hCx : ∀ HS BS, ab_Cx (abZ HS BS) U 0 (p, l, e, room_1, s, m, #[Value.ref b], below, meth, c, Q) := ab_law_cx hl hx hb hr hml hown hts hlocks hnm htab hKH hU
  have hFin : ∀ HS BS n ρ, ab_Hk (abZ HS BS) U 0 (p, l, e, room_1, s, m, #[Value.ref b], below, meth, c, Q) n ρ abKfin := ab_law_fin hUB hfin
  have hrH := ab_law_rH hL h8 hUb hUB x1 x2 x3 x4 x5
  rw [lg_entry_eq]
  have hent := lv_entry [Value.ref b] (n := 8) (by show 1 ≤ 8; decide)
  generalize ((lg_sl [Value.ref b] ++ List.replicate (8 - (lg_sl [Value.ref b]).length) Slot.unset).toArray) = ls at hent ⊢
  have hrL : ab_rL U 8 (fun j => (xs j).toInt) 8 [(0, .inr (.inl 0))] ls := ⟨[(0, .ref b)], hent, rfl, (by show Value.ref b = .ref U.2.2.1; rw [hUb]), trivial⟩
  have hV : va_S (ab_nA U) s.heap s.heap [] := ⟨Nat.le_refl _, fun _ _ _ => rfl, fun q hq => nomatch hq⟩
  by_cases h : L < 8
  · exact ab_run_ok (Z := abZ (fun _ _ => none) (fun _ => none)) (U := U) hAx (abTb (fun _ _ => none) (fun _ => none) (fun c x h => nomatch h)) 20000 0 [] true (abP 0).1 [(0, .inr (.inl 0))] [] abG0 (1, [(0, abSC L)]) 0 0 abKfin (abShort L h) ⟨0, rfl⟩ _ (fun j => (xs j).toInt) (hCx _ _) (abG0_sat xs) (hFin _ _ _ _) 0 abPc0 s.heap ls [] [] hrH hrL trivial hV
  · have e8 : L = 8 := by omega
    subst e8
    exact ab_run_ok (Z := abZ (fun _ _ => none) (fun _ => none)) (U := U) hAx (abTb (fun _ _ => none) (fun _ => none) (fun c x h => nomatch h)) 20000 0 [23] true (abP 0).1 [(0, .inr (.inl 0))] [] abG0 (1, [(0, abSC 8)]) 0 0 abK23 abCtor2 ⟨0, rfl⟩ _ (fun j => (xs j).toInt) (hCx _ _) (abG0_sat xs) (ab_law_K23 hAx hCx hFin) 0 abPc0 s.heap ls [] [] hrH hrL trivial hV
end GO
