/-! A ROW'S FILLING: the JDK's own method, walked. -/
def ab_fillN (t : Nat) : MethodName := match t with
  | 0 => ⟨"java/util/Arrays", "fill", "([II)V"⟩
  | _ => ⟨"java/util/Arrays", "fill", "([JJ)V"⟩
def ab_fillB (t : Nat) : ByteArray := match t with
  | 0 => prog_36_method_103_code
  | _ => prog_36_method_101_code
def ab_fillL (t : Nat) : Nat := match t with
  | 0 => 4
  | _ => 5
theorem abf0_0 : decode prog_36_method_103_code 0 = .ok (.iconst 0, 1) := by decide +kernel
theorem abf0_1 : decode prog_36_method_103_code 1 = .ok (.istore_n 2, 1) := by decide +kernel
theorem abf0_2 : decode prog_36_method_103_code 2 = .ok (.aload_n 0, 1) := by decide +kernel
theorem abf0_3 : decode prog_36_method_103_code 3 = .ok (.arraylength, 1) := by decide +kernel
theorem abf0_4 : decode prog_36_method_103_code 4 = .ok (.istore_n 3, 1) := by decide +kernel
theorem abf0_5 : decode prog_36_method_103_code 5 = .ok (.iload_n 2, 1) := by decide +kernel
theorem abf0_6 : decode prog_36_method_103_code 6 = .ok (.iload_n 3, 1) := by decide +kernel
theorem abf0_7 : decode prog_36_method_103_code 7 = .ok (.if_icmp .ge 13, 3) := by decide +kernel
theorem abf0_10 : decode prog_36_method_103_code 10 = .ok (.aload_n 0, 1) := by decide +kernel
theorem abf0_11 : decode prog_36_method_103_code 11 = .ok (.iload_n 2, 1) := by decide +kernel
theorem abf0_12 : decode prog_36_method_103_code 12 = .ok (.iload_n 1, 1) := by decide +kernel
theorem abf0_13 : decode prog_36_method_103_code 13 = .ok (.iastore, 1) := by decide +kernel
theorem abf0_14 : decode prog_36_method_103_code 14 = .ok (.iinc 2 1, 3) := by decide +kernel
theorem abf0_17 : decode prog_36_method_103_code 17 = .ok (.goto (-12), 3) := by decide +kernel
theorem abf0_20 : decode prog_36_method_103_code 20 = .ok (.return_, 1) := by decide +kernel
theorem abf1_0 : decode prog_36_method_101_code 0 = .ok (.iconst 0, 1) := by decide +kernel
theorem abf1_1 : decode prog_36_method_101_code 1 = .ok (.istore_n 3, 1) := by decide +kernel
theorem abf1_2 : decode prog_36_method_101_code 2 = .ok (.aload_n 0, 1) := by decide +kernel
theorem abf1_3 : decode prog_36_method_101_code 3 = .ok (.arraylength, 1) := by decide +kernel
theorem abf1_4 : decode prog_36_method_101_code 4 = .ok (.istore 4, 2) := by decide +kernel
theorem abf1_6 : decode prog_36_method_101_code 6 = .ok (.iload_n 3, 1) := by decide +kernel
theorem abf1_7 : decode prog_36_method_101_code 7 = .ok (.iload 4, 2) := by decide +kernel
theorem abf1_9 : decode prog_36_method_101_code 9 = .ok (.if_icmp .ge 13, 3) := by decide +kernel
theorem abf1_12 : decode prog_36_method_101_code 12 = .ok (.aload_n 0, 1) := by decide +kernel
theorem abf1_13 : decode prog_36_method_101_code 13 = .ok (.iload_n 3, 1) := by decide +kernel
theorem abf1_14 : decode prog_36_method_101_code 14 = .ok (.lload_n 1, 1) := by decide +kernel
theorem abf1_15 : decode prog_36_method_101_code 15 = .ok (.lastore, 1) := by decide +kernel
theorem abf1_16 : decode prog_36_method_101_code 16 = .ok (.iinc 3 1, 3) := by decide +kernel
theorem abf1_19 : decode prog_36_method_101_code 19 = .ok (.goto (-13), 3) := by decide +kernel
theorem abf1_22 : decode prog_36_method_101_code 22 = .ok (.return_, 1) := by decide +kernel
theorem ab_Rn {n : Nat} (h : n ≤ 1000000) : ab_R 0 (n : Int) := ⟨by rw [ab_lo0]; omega, by rw [ab_hi0]; omega⟩
theorem ab_i32le {i n : Nat} (hi : i ≤ 1000000) (hn : n ≤ 1000000) : (Int32.ofInt (n : Int) ≤ Int32.ofInt (i : Int)) ↔ n ≤ i := by
  rw [Int32.le_iff_toInt_le, ab_t32 (ab_Rn hi), ab_t32 (ab_Rn hn)]
  omega
theorem ab_i32s {i : Nat} (hi : i + 1 ≤ 1000000) : Int32.ofInt (i : Int) + Int32.ofInt 1 = Int32.ofInt ((i + 1 : Nat) : Int) := by
  rw [← Int32.toInt_inj, ab_t32 (ab_Rn hi), Int32.toInt_add, ab_t32 (ab_Rn (Nat.le_of_succ_le hi))]
  have e1 : (Int32.ofInt 1).toInt = 1 := rfl
  rw [e1, Int.bmod_def]
  omega
section FL
variable {p : Program} {l : Launch} {e : Env} {R : Room} {s : State} {m : MethodId} {args : Array Value} {below : List Frame} {meth : Method} {c : Code} {Q : State → Prop} {cells slots : Nat}
variable {D : va_G} {cl : List vw_C} {dA : Nat → ClassId}
theorem ab_fl0 (hx : p.tables.exec = Jvm.exec) (hb : c.code = prog_36_method_103_code) (hK : va_K D cl (ab_tys dA) s) {a N : Nat} {x : Int32} (hN : N ≤ 1000000) {H0 : Heap}
    (kk : ∀ (H : Heap) (ls : Array Slot) (locs : List Loc) (z : Nat → Value), H[a]? = some (arrV (dA 0) N z) → (∀ j, j < N → z j = .int x) → H.size = H0.size → (∀ q : Nat, q ≠ a → H[q]? = H0[q]?) → (∀ q ∈ locs, q.base = a) → W p l e R s m args below meth c H locs cells slots Q (F0 m 20 ls [])) :
    ∀ (d i : Nat), i + d = N → ∀ (H : Heap) (ls : Array Slot) (locs : List Loc) (z : Nat → Value), H[a]? = some (arrV (dA 0) N z) → (∀ j, j < i → z j = .int x) → H.size = H0.size → (∀ q : Nat, q ≠ a → H[q]? = H0[q]?) → (∀ q ∈ locs, q.base = a) →
      lv_has ls 4 [(2, .int (Int32.ofInt (i : Int))), (3, .int (Int32.ofInt (N : Int))), (0, .ref a), (1, .int x)] → W p l e R s m args below meth c H locs cells slots Q (F0 m 5 ls []) := by
  intro d
  induction d with
  | zero =>
    intro i hi H ls locs z h1 h2 h3 h4 h5 hl
    have e : i = N := by omega
    subst e
    refine lv_iload_n hx hb abf0_5 rfl (lv_at hl 0 rfl) (lv_iload_n hx hb abf0_6 rfl (lv_at hl 1 rfl) ?_)
    exact lv_icmp_ge hx hb abf0_7 rfl (fun _ => kk H ls locs z h1 h2 h3 h4 h5) (fun q => (q ((ab_i32le hN hN).mpr (Nat.le_refl _))).elim)
  | succ d ih =>
    intro i hi H ls locs z h1 h2 h3 h4 h5 hl
    have hin : i < N := by omega
    refine lv_iload_n hx hb abf0_5 rfl (lv_at hl 0 rfl) (lv_iload_n hx hb abf0_6 rfl (lv_at hl 1 rfl) ?_)
    refine lv_icmp_ge hx hb abf0_7 rfl (fun q => ?_) (fun _ => ?_)
    · have := (ab_i32le (by omega) hN).mp q
      omega
    refine lv_aload_n hx hb abf0_10 rfl (lv_at hl 2 rfl) (lv_iload_n hx hb abf0_11 rfl (lv_at hl 0 rfl) (lv_iload_n hx hb abf0_12 rfl (lv_at hl 3 rfl) ?_))
    refine ab_w39 hx hb hK (t := 0) (ins := .iastore) rfl h1 hN (j := (i : Int)) (by omega) (by omega) ⟨x, rfl⟩ abf0_13 (fun H1 g1 g2 g3 => ?_)
    refine lv_iinc hx hb abf0_14 hl (k := 0) rfl (ab_i32s (by omega)) (by decide) rfl (fun ls' hl' => ?_)
    refine lv_goto hx hb abf0_17 (tgt := 5) rfl ?_
    refine ih (i + 1) (by omega) H1 ls' _ _ g1 (fun j hj => ?_) (g2.trans h3) (fun q hq => (g3 q hq).trans (h4 q hq)) (fun q hq => ?_) hl'
    · show updV z (i : Int).toNat (.int x) j = _
      unfold updV
      by_cases e : j = (i : Int).toNat
      · rw [if_pos e]
      · rw [if_neg e]
        exact h2 j (by omega)
    · rcases List.mem_append.mp hq with h | h
      · exact h5 q h
      · rw [List.mem_singleton.mp h]
theorem ab_fl1 (hx : p.tables.exec = Jvm.exec) (hb : c.code = prog_36_method_101_code) (hK : va_K D cl (ab_tys dA) s) {a N : Nat} {x : Int64} (hN : N ≤ 1000000) {H0 : Heap}
    (kk : ∀ (H : Heap) (ls : Array Slot) (locs : List Loc) (z : Nat → Value), H[a]? = some (arrV (dA 1) N z) → (∀ j, j < N → z j = .long x) → H.size = H0.size → (∀ q : Nat, q ≠ a → H[q]? = H0[q]?) → (∀ q ∈ locs, q.base = a) → W p l e R s m args below meth c H locs cells slots Q (F0 m 22 ls [])) :
    ∀ (d i : Nat), i + d = N → ∀ (H : Heap) (ls : Array Slot) (locs : List Loc) (z : Nat → Value), H[a]? = some (arrV (dA 1) N z) → (∀ j, j < i → z j = .long x) → H.size = H0.size → (∀ q : Nat, q ≠ a → H[q]? = H0[q]?) → (∀ q ∈ locs, q.base = a) →
      lv_has ls 5 [(3, .int (Int32.ofInt (i : Int))), (4, .int (Int32.ofInt (N : Int))), (0, .ref a), (1, .long x)] → W p l e R s m args below meth c H locs cells slots Q (F0 m 6 ls []) := by
  intro d
  induction d with
  | zero =>
    intro i hi H ls locs z h1 h2 h3 h4 h5 hl
    have e : i = N := by omega
    subst e
    refine lv_iload_n hx hb abf1_6 rfl (lv_at hl 0 rfl) (lv_iload hx hb abf1_7 (lv_at hl 1 rfl) ?_)
    exact lv_icmp_ge hx hb abf1_9 rfl (fun _ => kk H ls locs z h1 h2 h3 h4 h5) (fun q => (q ((ab_i32le hN hN).mpr (Nat.le_refl _))).elim)
  | succ d ih =>
    intro i hi H ls locs z h1 h2 h3 h4 h5 hl
    have hin : i < N := by omega
    refine lv_iload_n hx hb abf1_6 rfl (lv_at hl 0 rfl) (lv_iload hx hb abf1_7 (lv_at hl 1 rfl) ?_)
    refine lv_icmp_ge hx hb abf1_9 rfl (fun q => ?_) (fun _ => ?_)
    · have := (ab_i32le (by omega) hN).mp q
      omega
    refine lv_aload_n hx hb abf1_12 rfl (lv_at hl 2 rfl) (lv_iload_n hx hb abf1_13 rfl (lv_at hl 0 rfl) (lv_lload_n hx hb abf1_14 rfl (lv_at hl 3 rfl) ?_))
    refine ab_w39 hx hb hK (t := 1) (ins := .lastore) rfl h1 hN (j := (i : Int)) (by omega) (by omega) ⟨x, rfl⟩ abf1_15 (fun H1 g1 g2 g3 => ?_)
    refine lv_iinc hx hb abf1_16 hl (k := 0) rfl (ab_i32s (by omega)) (by decide) rfl (fun ls' hl' => ?_)
    refine lv_goto hx hb abf1_19 (tgt := 6) rfl ?_
    refine ih (i + 1) (by omega) H1 ls' _ _ g1 (fun j hj => ?_) (g2.trans h3) (fun q hq => (g3 q hq).trans (h4 q hq)) (fun q hq => ?_) hl'
    · show updV z (i : Int).toNat (.long x) j = _
      unfold updV
      by_cases e : j = (i : Int).toNat
      · rw [if_pos e]
      · rw [if_neg e]
        exact h2 j (by omega)
    · rcases List.mem_append.mp hq with h | h
      · exact h5 q h
      · rw [List.mem_singleton.mp h]
end FL
/-- the value that is filled in -/
def ab_tyv (t : Nat) (x : Value) : Prop := match t with
  | 0 => ∃ v, x = .int v
  | _ => ∃ v, x = .long v
def ab_flP (D : va_G) (cl : List vw_C) (dA : Nat → ClassId) (t a N K : Nat) (H0 : Heap) (u : State) : Prop := va_K D cl (ab_tys dA) u ∧ u.heap = H0 ∧ K = 0 ∧ ∃ z, u.heap[a]? = some (arrV (dA t) N z)
def ab_flB (dA : Nat → ClassId) (t a N : Nat) (x : Value) (H0 : Heap) (t9 : State) : Prop := (∃ z, t9.heap[a]? = some (arrV (dA t) N z) ∧ ∀ j, j < N → z j = x) ∧ t9.heap.size = H0.size ∧ ∀ q : Nat, q ≠ a → t9.heap[q]? = H0[q]?
theorem ab_fillM {l : Launch} {D : va_G} {cl : List vw_C} {dA : Nat → ClassId} {t a N : Nat} {x : Value} {H0 : Heap} (ht : t ≤ 1) (hx : ab_tyv t x) (hN : N ≤ 1000000) :
    Met l (ab_fillN t) [Cond.code (ab_fillN t) (ab_fillB t) (ab_fillL t) none] { frames := 0, cells := 0, slots := 0, locals := 0 } (va_Pc [.ref a, x] (ab_flP D cl dA t a N 0 H0))
      (va_Qv (fun _ : Unit => True) (fun _ => ab_flB dA t a N x H0) (fun q => q = a)) 0 0 (fun q => q = a) := by
  refine MetFree.of_bodySF (code := ab_fillB t) (maxLocals := ab_fillL t) (ret := none) ?_ ?_ ?_
  · rcases (show t = 0 ∨ t = 1 by omega) with rfl | rfl <;> decide +kernel
  · intro args s m h hn
    obtain ⟨meth, c, h1, h2, h3, h4, h5, h6, -, -⟩ := Cond.code_spec hn (atoms_spec (ws := [Cond.code (ab_fillN t) (ab_fillB t) (ab_fillL t) none]) h _ List.mem_cons_self)
    exact ⟨meth, c, h1, h2, h3, h4, h5, h6⟩
  · intro p e s m args below meth c s₁ B hml hP _
    obtain ⟨rfl, hK, hH0, -, z, hz⟩ := hP
    subst hH0
    have hh0 : s₁.heap = s.heap := by rw [B.state]; rfl
    have fin : ∀ (H : Heap) (ls : Array Slot) (locs : List Loc) (z : Nat → Value) (pc : Nat), decode (ab_fillB t) pc = .ok (.return_, 1) → H[a]? = some (arrV (dA t) N z) → (∀ j, j < N → z j = x) → H.size = s.heap.size → (∀ q : Nat, q ≠ a → H[q]? = s.heap[q]?) → (∀ q ∈ locs, q.base = a) →
        W p l e (headSpec [Cond.code (ab_fillN t) (ab_fillB t) (ab_fillL t) none] { frames := 0, cells := 0, slots := 0, locals := 0 }).room s m (#[.ref a, x]) below meth c H locs 0 0 (MQ below (va_Qv (fun _ : Unit => True) (fun _ => ab_flB dA t a N x s.heap) (fun q => q = a)) (#[.ref a, x]) s 0 0 (fun q => q = a)) (F0 m pc ls []) := fun H ls locs z pc hd h1 h2 h3 h4 h5 =>
      W.vret B.exec B.bytes B.returns (fun t9 ht9 _ => ⟨⟨(), rfl, trivial, ⟨⟨z, by rw [ht9]; exact h1, h2⟩, by rw [ht9]; exact h3, fun q hq => by rw [ht9]; exact h4 q hq⟩⟩, ⟨by rw [ht9, h3]; exact Nat.le_refl _, fun q _ hq => by rw [ht9]; exact h4 q hq⟩⟩) h5 hd B.notSynchronized
    have go : W p l e (headSpec [Cond.code (ab_fillN t) (ab_fillB t) (ab_fillL t) none] { frames := 0, cells := 0, slots := 0, locals := 0 }).room s m (#[.ref a, x]) below meth c s.heap [] 0 0 (MQ below (va_Qv (fun _ : Unit => True) (fun _ => ab_flB dA t a N x s.heap) (fun q => q = a)) (#[.ref a, x]) s 0 0 (fun q => q = a)) (entryFrame m (#[.ref a, x]) (ab_fillL t)) := by
      have hent : entryFrame m (#[.ref a, x]) (ab_fillL t) = F0 m 0 ((lg_sl [.ref a, x] ++ List.replicate (ab_fillL t - (lg_sl [.ref a, x]).length) Slot.unset).toArray) [] := lg_entry_eq m [.ref a, x] (ab_fillL t)
      rw [hent]
      rcases (show t = 0 ∨ t = 1 by omega) with rfl | rfl
      · obtain ⟨v, rfl⟩ := hx
        have hl := lv_entry [.ref a, .int v] (n := 4) (by show 2 ≤ 4; decide)
        show W _ _ _ _ _ _ _ _ _ _ _ _ _ _ _ (F0 m 0 ((lg_sl [.ref a, .int v] ++ List.replicate (4 - (lg_sl [.ref a, .int v]).length) Slot.unset).toArray) [])
        generalize ((lg_sl [.ref a, .int v] ++ List.replicate (4 - (lg_sl [.ref a, .int v]).length) Slot.unset).toArray) = ls at hl ⊢
        have hl : lv_has ls 4 [(0, .ref a), (1, .int v)] := hl
        refine lv_iconst B.exec B.bytes abf0_0 (v := Int32.ofInt ((0 : Nat) : Int)) rfl (lv_istore_n B.exec B.bytes abf0_1 rfl hl (by decide) rfl (fun ls1 hl1 => ?_))
        refine lv_aload_n B.exec B.bytes abf0_2 rfl (lv_at hl1 1 rfl) (ab_w37 B.exec B.bytes hK (by decide) hz abf0_3 ?_)
        refine lv_istore_n B.exec B.bytes abf0_4 rfl hl1 (by decide) rfl (fun ls2 hl2 => ?_)
        exact ab_fl0 B.exec B.bytes hK hN (H0 := s.heap) (fun H ls locs z h1 h2 h3 h4 h5 => fin H ls locs z 20 abf0_20 h1 h2 h3 h4 h5) N 0 (Nat.zero_add N) s.heap ls2 [] z hz (fun j hj => by omega) rfl (fun _ _ => rfl) (fun q hq => nomatch hq) ⟨hl2.1, hl2.2.1, fun q hq => by
          rcases List.mem_cons.mp hq with rfl | hq
          · exact lv_at hl2 1 rfl
          rcases List.mem_cons.mp hq with rfl | hq
          · exact lv_at hl2 0 rfl
          rcases List.mem_cons.mp hq with rfl | hq
          · exact lv_at hl2 2 rfl
          rcases List.mem_cons.mp hq with rfl | hq
          · exact lv_at hl2 3 rfl
          cases hq⟩
      · obtain ⟨v, rfl⟩ := hx
        have hl := lv_entry [.ref a, .long v] (n := 5) (by show 3 ≤ 5; decide)
        show W _ _ _ _ _ _ _ _ _ _ _ _ _ _ _ (F0 m 0 ((lg_sl [.ref a, .long v] ++ List.replicate (5 - (lg_sl [.ref a, .long v]).length) Slot.unset).toArray) [])
        generalize ((lg_sl [.ref a, .long v] ++ List.replicate (5 - (lg_sl [.ref a, .long v]).length) Slot.unset).toArray) = ls at hl ⊢
        have hl : lv_has ls 5 [(0, .ref a), (1, .long v)] := hl
        refine lv_iconst B.exec B.bytes abf1_0 (v := Int32.ofInt ((0 : Nat) : Int)) rfl (lv_istore_n B.exec B.bytes abf1_1 rfl hl (by decide) rfl (fun ls1 hl1 => ?_))
        refine lv_aload_n B.exec B.bytes abf1_2 rfl (lv_at hl1 1 rfl) (ab_w37 B.exec B.bytes hK (by decide) hz abf1_3 ?_)
        refine lv_istore B.exec B.bytes abf1_4 hl1 (by decide) rfl (fun ls2 hl2 => ?_)
        exact ab_fl1 B.exec B.bytes hK hN (H0 := s.heap) (fun H ls locs z h1 h2 h3 h4 h5 => fin H ls locs z 22 abf1_22 h1 h2 h3 h4 h5) N 0 (Nat.zero_add N) s.heap ls2 [] z hz (fun j hj => by omega) rfl (fun _ _ => rfl) (fun q hq => nomatch hq) ⟨hl2.1, hl2.2.1, fun q hq => by
          rcases List.mem_cons.mp hq with rfl | hq
          · exact lv_at hl2 1 rfl
          rcases List.mem_cons.mp hq with rfl | hq
          · exact lv_at hl2 0 rfl
          rcases List.mem_cons.mp hq with rfl | hq
          · exact lv_at hl2 2 rfl
          rcases List.mem_cons.mp hq with rfl | hq
          · exact lv_at hl2 3 rfl
          cases hq⟩
    obtain ⟨t9, a1, o, b1, b2, b3⟩ := go s₁ hh0 (Stand.of_body B)
    exact ⟨t9, o, a1, b1, b2, b3⟩
