/-! ROWS that touch locals, stack and numbers alone: what the table's class says of the instruction, and that the machine does it. -/
section R1
variable {p : Program} {l : Launch} {e : Env} {R : Room} {s : State} {m : MethodId} {args : Array Value} {below : List Frame} {meth : Method} {c : Code} {H : Heap} {locs : List Loc} {cells slots : Nat} {Q : State → Prop}
variable {cc : ByteArray} {pc : Nat} {ls : Array Slot} {rest : List Value}
/-- loads -/
def ab_k3 (ins : Instr) (len tg i : Nat) : Prop := match ins with
  | .iload_n k => tg = 0 ∧ k.val = i ∧ len = 1
  | .iload j => tg = 0 ∧ j = i ∧ len = 2
  | .lload_n k => tg = 1 ∧ k.val = i ∧ len = 1
  | .lload j => tg = 1 ∧ j = i ∧ len = 2
  | .aload_n k => tg = 2 ∧ k.val = i ∧ len = 1
  | .aload j => tg = 2 ∧ j = i ∧ len = 2
  | .dload_n k => tg = 4 ∧ k.val = i ∧ len = 1
  | _ => False
theorem ab_tag0 {v : ab_V} (h : ab_tag 0 v = true) : ∃ z, v = .inl (.inl z) := by
  match v, h with
  | .inl (.inl z), _ => exact ⟨z, rfl⟩
  | .inl (.inr _), h => cases h
  | .inr (.inl _), h => cases h
  | .inr (.inr _), h => cases h
theorem ab_tag1 {v : ab_V} (h : ab_tag 1 v = true) : ∃ z, v = .inl (.inr z) := by
  match v, h with
  | .inl (.inr z), _ => exact ⟨z, rfl⟩
  | .inl (.inl _), h => cases h
  | .inr (.inl _), h => cases h
  | .inr (.inr _), h => cases h
theorem ab_tag2 {v : ab_V} (h : ab_tag 2 v = true) {b B n : Nat} {ρ : Nat → Int} {x : Value} (hv : ab_RV b B n ρ v x) : ∃ a, x = .ref a := by
  match v, h with
  | .inr (.inl z), _ => exact ⟨_, hv⟩
  | .inl (.inr z), h => cases h
  | .inl (.inl _), h => cases h
  | .inr (.inr t), h =>
    have e : t = 2 := ab_beq h
    subst e
    rcases hv with ⟨q, _⟩ | ⟨q, _⟩ | ⟨_, q⟩ | ⟨q, _⟩ | ⟨q, _⟩
    · cases q
    · cases q
    · exact q
    · cases q
    · cases q
theorem ab_tag4 {v : ab_V} (h : ab_tag 4 v = true) {b B n : Nat} {ρ : Nat → Int} {x : Value} (hv : ab_RV b B n ρ v x) : ∃ d, x = .double d := by
  match v, h with
  | .inr (.inl z), h => cases h
  | .inl (.inr z), h => cases h
  | .inl (.inl _), h => cases h
  | .inr (.inr t), h =>
    have e : t = 4 := ab_beq h
    subst e
    rcases hv with ⟨q, _⟩ | ⟨q, _⟩ | ⟨q, _⟩ | ⟨q, _⟩ | ⟨_, q⟩
    · cases q
    · cases q
    · cases q
    · cases q
    · exact q
theorem ab_w3 (hx : p.tables.exec = Jvm.exec) (hb : c.code = cc) {ins : Instr} {len tg i : Nat} (hd : decode cc pc = .ok (ins, len)) (hk : ab_k3 ins len tg i) {b B n : Nat} {ρ : Nat → Int} {v : ab_V} {x : Value} (ht : ab_tag tg v = true) (hl : ls[i]? = some (.val x)) (hv : ab_RV b B n ρ v x)
    (k : W p l e R s m args below meth c H locs cells slots Q (F0 m (pc + len) ls (x :: rest))) : W p l e R s m args below meth c H locs cells slots Q (F0 m pc ls rest) := by
  unfold ab_k3 at hk
  split at hk
  · obtain ⟨rfl, e2, rfl⟩ := hk
    obtain ⟨z, rfl⟩ := ab_tag0 ht
    obtain ⟨rfl, -, -⟩ := hv
    exact lv_iload_n hx hb hd e2 hl k
  · obtain ⟨rfl, rfl, rfl⟩ := hk
    obtain ⟨z, rfl⟩ := ab_tag0 ht
    obtain ⟨rfl, -, -⟩ := hv
    exact lv_iload hx hb hd hl k
  · obtain ⟨rfl, e2, rfl⟩ := hk
    obtain ⟨z, rfl⟩ := ab_tag1 ht
    obtain ⟨rfl, -, -⟩ := hv
    exact lv_lload_n hx hb hd e2 hl k
  · obtain ⟨rfl, rfl, rfl⟩ := hk
    obtain ⟨z, rfl⟩ := ab_tag1 ht
    obtain ⟨rfl, -, -⟩ := hv
    exact lv_lload hx hb hd hl k
  · obtain ⟨rfl, e2, rfl⟩ := hk
    obtain ⟨z, rfl⟩ := ab_tag2 ht hv
    exact lv_aload_n hx hb hd e2 hl k
  · obtain ⟨rfl, rfl, rfl⟩ := hk
    obtain ⟨z, rfl⟩ := ab_tag2 ht hv
    exact lv_aload hx hb hd hl k
  · obtain ⟨rfl, e2, rfl⟩ := hk
    obtain ⟨z, rfl⟩ := ab_tag4 ht hv
    exact lv_dload_n hx hb hd e2 hl k
  · exact hk.elim
/-- constants -/
def ab_k0c (ins : Instr) (len : Nat) (A : Int) : Prop := match ins with
  | .iconst n => Int32.ofInt n = Int32.ofInt A ∧ len = 1
  | .bipush n => (Int8.ofInt n).toInt32 = Int32.ofInt A ∧ len = 2
  | .sipush n => (Int16.ofInt n).toInt32 = Int32.ofInt A ∧ len = 3
  | _ => False
theorem ab_w0 (hx : p.tables.exec = Jvm.exec) (hb : c.code = cc) {ins : Instr} {len : Nat} {A : Int} (hd : decode cc pc = .ok (ins, len)) (hk : ab_k0c ins len A)
    (k : W p l e R s m args below meth c H locs cells slots Q (F0 m (pc + len) ls (.int (Int32.ofInt A) :: rest))) : W p l e R s m args below meth c H locs cells slots Q (F0 m pc ls rest) := by
  unfold ab_k0c at hk
  split at hk
  · obtain ⟨e1, rfl⟩ := hk
    exact lv_iconst hx hb hd e1 k
  · obtain ⟨e1, rfl⟩ := hk
    exact lv_bipush hx hb hd e1 k
  · obtain ⟨e1, rfl⟩ := hk
    exact lv_sipush hx hb hd e1 k
  · exact hk.elim
/-- stores: of two slots -/
def ab_k4 (ins : Instr) (len tg i : Nat) : Prop := match ins with
  | .istore_n k => tg = 0 ∧ k.val = i ∧ len = 1
  | .istore j => tg = 0 ∧ j = i ∧ len = 2
  | .lstore_n k => tg = 1 ∧ k.val = i ∧ len = 1
  | .lstore j => tg = 1 ∧ j = i ∧ len = 2
  | .astore_n k => tg = 2 ∧ k.val = i ∧ len = 1
  | .astore j => tg = 2 ∧ j = i ∧ len = 2
  | _ => False
theorem ab_wide1 {z : ab_S} : ab_wide (.inl (.inr z)) = true := rfl
theorem ab_w4 (hx : p.tables.exec = Jvm.exec) (hb : c.code = cc) {ins : Instr} {len tg i nL : Nat} (hd : decode cc pc = .ok (ins, len)) (hk : ab_k4 ins len tg i) {b B n : Nat} {ρ : Nat → Int} {L : ab_L} {v : ab_V} {x : Value} (hi : i + 1 < nL ∨ (i < nL ∧ tg ≠ 1)) (ht : ab_tag tg v = true) (hv : ab_RV b B n ρ v x) (hL : ab_RL b B n ρ nL L ls)
    (k : ∀ ls' : Array Slot, ab_RL b B n ρ nL (ab_sto i v L) ls' → W p l e R s m args below meth c H locs cells slots Q (F0 m (pc + len) ls' rest)) : W p l e R s m args below meth c H locs cells slots Q (F0 m pc ls (x :: rest)) := by
  obtain ⟨lv, h1, h2⟩ := hL
  unfold ab_k4 at hk
  split at hk
  · obtain ⟨rfl, e2, rfl⟩ := hk
    obtain ⟨z, rfl⟩ := ab_tag0 ht
    have hv' := hv
    obtain ⟨rfl, -, -⟩ := hv
    exact lv_istore_n hx hb hd e2 h1 (by omega) rfl (fun ls' h => k ls' ⟨_, h, h2.sto1 hv' rfl⟩)
  · obtain ⟨rfl, rfl, rfl⟩ := hk
    obtain ⟨z, rfl⟩ := ab_tag0 ht
    have hv' := hv
    obtain ⟨rfl, -, -⟩ := hv
    exact lv_istore hx hb hd h1 (by omega) rfl (fun ls' h => k ls' ⟨_, h, h2.sto1 hv' rfl⟩)
  · obtain ⟨rfl, e2, rfl⟩ := hk
    obtain ⟨z, rfl⟩ := ab_tag1 ht
    have hv' := hv
    obtain ⟨rfl, -, -⟩ := hv
    exact lv_lstore_n hx hb hd e2 h1 (by omega) rfl (fun ls' h => k ls' ⟨_, h, h2.sto2 hv' rfl⟩)
  · obtain ⟨rfl, rfl, rfl⟩ := hk
    obtain ⟨z, rfl⟩ := ab_tag1 ht
    have hv' := hv
    obtain ⟨rfl, -, -⟩ := hv
    exact lv_lstore hx hb hd h1 (by omega) rfl (fun ls' h => k ls' ⟨_, h, h2.sto2 hv' rfl⟩)
  · obtain ⟨rfl, e2, rfl⟩ := hk
    have hw : ab_wide v = false := by
      match v, ht with
      | .inr (.inl _), _ => rfl
      | .inl (.inr z), h => cases h
      | .inl (.inl _), h => cases h
      | .inr (.inr t), h => rw [show t = 2 from ab_beq h]; rfl
    have hv' := hv
    obtain ⟨z, rfl⟩ := ab_tag2 ht hv
    exact lv_astore_n hx hb hd e2 h1 (by omega) rfl (fun ls' h => k ls' ⟨_, h, h2.sto1 hv' hw⟩)
  · obtain ⟨rfl, rfl, rfl⟩ := hk
    have hw : ab_wide v = false := by
      match v, ht with
      | .inr (.inl _), _ => rfl
      | .inl (.inr z), h => cases h
      | .inl (.inl _), h => cases h
      | .inr (.inr t), h => rw [show t = 2 from ab_beq h]; rfl
    have hv' := hv
    obtain ⟨z, rfl⟩ := ab_tag2 ht hv
    exact lv_astore hx hb hd h1 (by omega) rfl (fun ls' h => k ls' ⟨_, h, h2.sto1 hv' hw⟩)
  · exact hk.elim
/-- iinc -/
theorem ab_w5 (hx : p.tables.exec = Jvm.exec) (hb : c.code = cc) {i nL : Nat} {A : Int} (hd : decode cc pc = .ok (.iinc i A, 3)) {b B n n' : Nat} {ρ ρ' : Nat → Int} {L : ab_L} {x : Int32} {v : ab_V} (hi : i < nL) (hl : ls[i]? = some (.val (.int x))) (hL : ab_RL b B n ρ nL L ls) (hE : ab_Ext n ρ n' ρ') (hv : ab_RV b B n' ρ' v (.int (x + Int32.ofInt A)))
    (k : ∀ ls' : Array Slot, ab_RL b B n' ρ' nL (ab_sto i v L) ls' → W p l e R s m args below meth c H locs cells slots Q (F0 m (pc + 3) ls' rest)) : W p l e R s m args below meth c H locs cells slots Q (F0 m pc ls rest) := by
  obtain ⟨lv, h1, h2⟩ := hL
  have hw : ab_wide v = false := by
    have := hv.cat
    cases hq : ab_wide v
    · rfl
    · rw [hq] at this; cases this
  have h3 : lv_has ls nL ((i, Value.int x) :: lv) := ⟨h1.1, h1.2.1, fun q hq => by
    rcases List.mem_cons.mp hq with rfl | hq
    · exact hl
    · exact h1.2.2 q hq⟩
  refine lv_iinc (k := 0) hx hb hd h3 rfl rfl hi rfl (fun ls' h => k ls' ?_)
  refine ⟨_, ?_, (h2.ext hE).sto1 hv hw⟩
  have e : (((i, Value.int x) :: lv).filter (fun q => !(q.1 == i) && !(q.1 + 1 == i && q.2.category == 2))) = lv.filter (fun q => !(q.1 == i) && !(q.1 + 1 == i && q.2.category == 2)) := by
    rw [List.filter_cons]
    simp
  rw [e] at h
  exact h
/-- arithmetic of two -/
def ab_k6 (ins : Instr) (kd op : Nat) : Prop := match ins with
  | .iadd => kd = 0 ∧ op = 0 | .isub => kd = 0 ∧ op = 1 | .imul => kd = 0 ∧ op = 2 | .idiv => kd = 0 ∧ op = 3 | .irem => kd = 0 ∧ op = 4
  | .iand => kd = 0 ∧ op = 5 | .ior => kd = 0 ∧ op = 6 | .ixor => kd = 0 ∧ op = 7 | .ishl => kd = 0 ∧ op = 8 | .ishr => kd = 0 ∧ op = 9
  | .ladd => kd = 1 ∧ op = 0 | .lsub => kd = 1 ∧ op = 1 | .lmul => kd = 1 ∧ op = 2 | .ldiv => kd = 1 ∧ op = 3 | .lrem => kd = 1 ∧ op = 4
  | .land => kd = 1 ∧ op = 5 | .lor => kd = 1 ∧ op = 6 | .lxor => kd = 1 ∧ op = 7
  | _ => False
theorem ab_ne0 {z : Int} (hR : ab_R 0 z) (h : z ≠ 0) : ¬ Int32.ofInt z = 0 := by
  intro q
  have := ab_t32 hR
  rw [q] at this
  exact h this.symm
theorem ab_ne0L {z : Int} (hR : ab_R 1 z) (h : z ≠ 0) : ¬ Int64.ofInt z = 0 := by
  intro q
  have := ab_t64 hR.1 hR.2
  rw [q] at this
  exact h this.symm
theorem ab_w6 (hx : p.tables.exec = Jvm.exec) (hb : c.code = cc) {ins : Instr} {op : Nat} (hd : decode cc pc = .ok (ins, 1)) (hk : ab_k6 ins 0 op) {x y : Int} (hy : ab_R 0 y) (h0 : (op = 3 ∨ op = 4) → y ≠ 0)
    (k : W p l e R s m args below meth c H locs cells slots Q (F0 m (pc + 1) ls (.int (Int32.ofInt (ab_opZ 0 op x y)) :: rest))) : W p l e R s m args below meth c H locs cells slots Q (F0 m pc ls (.int (Int32.ofInt y) :: .int (Int32.ofInt x) :: rest)) := by
  have ez : ∀ q : Int32, Int32.ofInt q.toInt = q := Int32.ofInt_toInt
  unfold ab_opZ at k
  rw [show Nat.beq 0 0 = true from rfl, cond_true, ez] at k
  unfold ab_k6 at hk
  split at hk
  all_goals first | exact hk.elim | (obtain ⟨e1, e2⟩ := hk; first | (cases e1; done) | skip)
  all_goals subst e2
  · exact lv_iadd hx hb hd k
  · exact lv_isub hx hb hd k
  · exact lv_imul hx hb hd k
  · exact lv_idiv hx hb hd (ab_ne0 hy (h0 (Or.inl rfl))) k
  · exact lv_irem hx hb hd (ab_ne0 hy (h0 (Or.inr rfl))) k
  · exact lv_iand hx hb hd k
  · exact lv_ior hx hb hd k
  · exact lv_ixor hx hb hd k
  · exact lv_ishl hx hb hd k
  · exact lv_ishr hx hb hd k
theorem ab_w6L (hx : p.tables.exec = Jvm.exec) (hb : c.code = cc) {ins : Instr} {op : Nat} (hd : decode cc pc = .ok (ins, 1)) (hk : ab_k6 ins 1 op) {x y : Int} (hy : ab_R 1 y) (h0 : (op = 3 ∨ op = 4) → y ≠ 0)
    (k : W p l e R s m args below meth c H locs cells slots Q (F0 m (pc + 1) ls (.long (Int64.ofInt (ab_opZ 1 op x y)) :: rest))) : W p l e R s m args below meth c H locs cells slots Q (F0 m pc ls (.long (Int64.ofInt y) :: .long (Int64.ofInt x) :: rest)) := by
  have ez : ∀ q : Int64, Int64.ofInt q.toInt = q := Int64.ofInt_toInt
  unfold ab_opZ at k
  rw [show Nat.beq 1 0 = false from rfl, cond_false, ez] at k
  unfold ab_k6 at hk
  split at hk
  all_goals first | exact hk.elim | (obtain ⟨e1, e2⟩ := hk; first | (cases e1; done) | skip)
  all_goals subst e2
  · exact lv_ladd hx hb hd k
  · exact lv_lsub hx hb hd k
  · exact lv_lmul hx hb hd k
  · exact lv_ldiv hx hb hd (ab_ne0L hy (h0 (Or.inl rfl))) k
  · exact lv_lrem hx hb hd (ab_ne0L hy (h0 (Or.inr rfl))) k
  · exact lv_land hx hb hd k
  · exact lv_lor hx hb hd k
  · exact lv_lxor hx hb hd k
theorem ab_neg32 (x : Int) : Int32.ofInt (ab_opZ 0 1 0 x) = -Int32.ofInt x := by
  show Int32.ofInt (Int32.ofInt 0 - Int32.ofInt x).toInt = _
  rw [Int32.ofInt_toInt, show Int32.ofInt 0 = 0 from rfl, Int32.zero_sub]
theorem ab_neg64 (x : Int) : Int64.ofInt (ab_opZ 1 1 0 x) = -Int64.ofInt x := by
  show Int64.ofInt (Int64.ofInt 0 - Int64.ofInt x).toInt = _
  rw [Int64.ofInt_toInt, show Int64.ofInt 0 = 0 from rfl, Int64.zero_sub]
/-- conditions of the machine -/
def ab_cn (k : Nat) : ClassFile.Cond := match k with
  | 0 => .eq | 1 => .ne | 2 => .lt | 3 => .ge | 4 => .gt | _ => .le
theorem ab_w21 (hx : p.tables.exec = Jvm.exec) (hb : c.code = cc) {k : Nat} {off : Int} {tgt : Nat} (hk : k ≤ 5) (hd : decode cc pc = .ok (.ifCond (ab_cn k) off, 3)) (ht : (pc : Int) + off = (tgt : Int)) {x : Int} (hR : ab_R 0 x)
    (kk : W p l e R s m args below meth c H locs cells slots Q (F0 m (bif ab_hold k x 0 then tgt else pc + 3) ls rest)) : W p l e R s m args below meth c H locs cells slots Q (F0 m pc ls (.int (Int32.ofInt x) :: rest)) := by
  have ex := ab_t32 hR
  have e0 : (0 : Int32).toInt = 0 := rfl
  revert hd kk
  refine ab_c5 (P := fun k => decode cc pc = .ok (.ifCond (ab_cn k) off, 3) → W p l e R s m args below meth c H locs cells slots Q (F0 m (bif ab_hold k x 0 then tgt else pc + 3) ls rest) → W p l e R s m args below meth c H locs cells slots Q (F0 m pc ls (.int (Int32.ofInt x) :: rest))) ?_ ?_ ?_ ?_ ?_ ?_ hk
  · intro hd kk
    refine lv_if_eq hx hb hd ht (fun q => ?_) (fun q => ?_)
    · rw [(ab_h0 x 0).mpr (by rw [← ex, q]; rfl)] at kk; exact kk
    · rw [ab_bool (b := ab_hold 0 x 0) (fun h => q (by rw [(ab_h0 x 0).mp h]; rfl))] at kk; exact kk
  · intro hd kk
    refine lv_if_ne hx hb hd ht (fun q => ?_) (fun q => ?_)
    · rw [(ab_h1 x 0).mpr (fun h => q (by rw [h]; rfl))] at kk; exact kk
    · rw [ab_bool (b := ab_hold 1 x 0) (fun h => (ab_h1 x 0).mp h (by rw [← ex, q]; rfl))] at kk; exact kk
  · intro hd kk
    refine lv_if_lt hx hb hd ht (fun q => ?_) (fun q => ?_)
    · rw [Int32.lt_iff_toInt_lt, ex, e0] at q
      rw [(ab_h2 x 0).mpr q] at kk; exact kk
    · rw [Int32.lt_iff_toInt_lt, ex, e0] at q
      rw [ab_bool (b := ab_hold 2 x 0) (fun h => q ((ab_h2 x 0).mp h))] at kk; exact kk
  · intro hd kk
    refine lv_if_ge hx hb hd ht (fun q => ?_) (fun q => ?_)
    · rw [Int32.le_iff_toInt_le, ex, e0] at q
      rw [(ab_h3 x 0).mpr q] at kk; exact kk
    · rw [Int32.le_iff_toInt_le, ex, e0] at q
      rw [ab_bool (b := ab_hold 3 x 0) (fun h => q ((ab_h3 x 0).mp h))] at kk; exact kk
  · intro hd kk
    refine lv_if_gt hx hb hd ht (fun q => ?_) (fun q => ?_)
    · rw [Int32.lt_iff_toInt_lt, ex, e0] at q
      rw [(ab_h4 x 0).mpr q] at kk; exact kk
    · rw [Int32.lt_iff_toInt_lt, ex, e0] at q
      rw [ab_bool (b := ab_hold 4 x 0) (fun h => q ((ab_h4 x 0).mp h))] at kk; exact kk
  · intro hd kk
    refine lv_if_le hx hb hd ht (fun q => ?_) (fun q => ?_)
    · rw [Int32.le_iff_toInt_le, ex, e0] at q
      rw [(ab_h5 x 0).mpr q] at kk; exact kk
    · rw [Int32.le_iff_toInt_le, ex, e0] at q
      rw [ab_bool (b := ab_hold 5 x 0) (fun h => q ((ab_h5 x 0).mp h))] at kk; exact kk
theorem ab_w22 (hx : p.tables.exec = Jvm.exec) (hb : c.code = cc) {k : Nat} {off : Int} {tgt : Nat} (hk : k ≤ 5) (hd : decode cc pc = .ok (.if_icmp (ab_cn k) off, 3)) (ht : (pc : Int) + off = (tgt : Int)) {x y : Int} (hR : ab_R 0 x) (hR2 : ab_R 0 y)
    (kk : W p l e R s m args below meth c H locs cells slots Q (F0 m (bif ab_hold k x y then tgt else pc + 3) ls rest)) : W p l e R s m args below meth c H locs cells slots Q (F0 m pc ls (.int (Int32.ofInt y) :: .int (Int32.ofInt x) :: rest)) := by
  have ex := ab_t32 hR
  have ey := ab_t32 hR2
  revert hd kk
  refine ab_c5 (P := fun k => decode cc pc = .ok (.if_icmp (ab_cn k) off, 3) → W p l e R s m args below meth c H locs cells slots Q (F0 m (bif ab_hold k x y then tgt else pc + 3) ls rest) → W p l e R s m args below meth c H locs cells slots Q (F0 m pc ls (.int (Int32.ofInt y) :: .int (Int32.ofInt x) :: rest))) ?_ ?_ ?_ ?_ ?_ ?_ hk
  · intro hd kk
    refine lv_icmp_eq hx hb hd ht (fun q => ?_) (fun q => ?_)
    · rw [(ab_h0 x y).mpr (by rw [← ex, q, ey])] at kk; exact kk
    · rw [ab_bool (b := ab_hold 0 x y) (fun h => q (by rw [(ab_h0 x y).mp h]))] at kk; exact kk
  · intro hd kk
    refine lv_icmp_ne hx hb hd ht (fun q => ?_) (fun q => ?_)
    · rw [(ab_h1 x y).mpr (fun h => q (by rw [h]))] at kk; exact kk
    · rw [ab_bool (b := ab_hold 1 x y) (fun h => (ab_h1 x y).mp h (by rw [← ex, q, ey]))] at kk; exact kk
  · intro hd kk
    refine lv_icmp_lt hx hb hd ht (fun q => ?_) (fun q => ?_)
    · rw [Int32.lt_iff_toInt_lt, ex, ey] at q
      rw [(ab_h2 x y).mpr q] at kk; exact kk
    · rw [Int32.lt_iff_toInt_lt, ex, ey] at q
      rw [ab_bool (b := ab_hold 2 x y) (fun h => q ((ab_h2 x y).mp h))] at kk; exact kk
  · intro hd kk
    refine lv_icmp_ge hx hb hd ht (fun q => ?_) (fun q => ?_)
    · rw [Int32.le_iff_toInt_le, ex, ey] at q
      rw [(ab_h3 x y).mpr q] at kk; exact kk
    · rw [Int32.le_iff_toInt_le, ex, ey] at q
      rw [ab_bool (b := ab_hold 3 x y) (fun h => q ((ab_h3 x y).mp h))] at kk; exact kk
  · intro hd kk
    refine lv_icmp_gt hx hb hd ht (fun q => ?_) (fun q => ?_)
    · rw [Int32.lt_iff_toInt_lt, ex, ey] at q
      rw [(ab_h4 x y).mpr q] at kk; exact kk
    · rw [Int32.lt_iff_toInt_lt, ex, ey] at q
      rw [ab_bool (b := ab_hold 4 x y) (fun h => q ((ab_h4 x y).mp h))] at kk; exact kk
  · intro hd kk
    refine lv_icmp_le hx hb hd ht (fun q => ?_) (fun q => ?_)
    · rw [Int32.le_iff_toInt_le, ex, ey] at q
      rw [(ab_h5 x y).mpr q] at kk; exact kk
    · rw [Int32.le_iff_toInt_le, ex, ey] at q
      rw [ab_bool (b := ab_hold 5 x y) (fun h => q ((ab_h5 x y).mp h))] at kk; exact kk
theorem ab_w23 (hx : p.tables.exec = Jvm.exec) (hb : c.code = cc) {k : Nat} {off : Int} {tgt : Nat} (hk : k ≤ 5) (hd0 : decode cc pc = .ok (.lcmp, 1)) (hd : decode cc (pc + 1) = .ok (.ifCond (ab_cn k) off, 3)) (ht : ((pc + 1 : Nat) : Int) + off = (tgt : Int)) {x y : Int} (hR : ab_R 1 x) (hR2 : ab_R 1 y)
    (kk : W p l e R s m args below meth c H locs cells slots Q (F0 m (bif ab_hold k x y then tgt else pc + 1 + 3) ls rest)) : W p l e R s m args below meth c H locs cells slots Q (F0 m pc ls (.long (Int64.ofInt y) :: .long (Int64.ofInt x) :: rest)) := by
  have ex := ab_t64 hR.1 hR.2
  have ey := ab_t64 hR2.1 hR2.2
  refine W.lcmp hx hb hd0 ?_
  revert hd kk
  refine ab_c5 (P := fun k => decode cc (pc + 1) = .ok (.ifCond (ab_cn k) off, 3) → W p l e R s m args below meth c H locs cells slots Q (F0 m (bif ab_hold k x y then tgt else pc + 1 + 3) ls rest) → W p l e R s m args below meth c H locs cells slots Q (F0 m (pc + 1) ls (.int (lg_cmp (Int64.ofInt x) (Int64.ofInt y)) :: rest))) ?_ ?_ ?_ ?_ ?_ ?_ hk
  · intro hd kk
    refine lv_if_eq hx hb hd ht (fun q => ?_) (fun q => ?_)
    · rw [lg_cmp_eq] at q
      rw [(ab_h0 x y).mpr (by rw [← ex, q, ey])] at kk; exact kk
    · rw [lg_cmp_eq] at q
      rw [ab_bool (b := ab_hold 0 x y) (fun h => q (by rw [(ab_h0 x y).mp h]))] at kk; exact kk
  · intro hd kk
    refine lv_if_ne hx hb hd ht (fun q => ?_) (fun q => ?_)
    · rw [lg_cmp_eq] at q
      rw [(ab_h1 x y).mpr (fun h => q (by rw [h]))] at kk; exact kk
    · rw [lg_cmp_eq] at q
      rw [ab_bool (b := ab_hold 1 x y) (fun h => (ab_h1 x y).mp h (by rw [← ex, q, ey]))] at kk; exact kk
  · intro hd kk
    refine lv_if_lt hx hb hd ht (fun q => ?_) (fun q => ?_)
    · rw [lg_cmp_lt, Int64.lt_iff_toInt_lt, ex, ey] at q
      rw [(ab_h2 x y).mpr q] at kk; exact kk
    · rw [lg_cmp_lt, Int64.lt_iff_toInt_lt, ex, ey] at q
      rw [ab_bool (b := ab_hold 2 x y) (fun h => q ((ab_h2 x y).mp h))] at kk; exact kk
  · intro hd kk
    refine lv_if_ge hx hb hd ht (fun q => ?_) (fun q => ?_)
    · rw [lg_cmp_ge, Int64.le_iff_toInt_le, ex, ey] at q
      rw [(ab_h3 x y).mpr q] at kk; exact kk
    · rw [lg_cmp_ge, Int64.le_iff_toInt_le, ex, ey] at q
      rw [ab_bool (b := ab_hold 3 x y) (fun h => q ((ab_h3 x y).mp h))] at kk; exact kk
  · intro hd kk
    refine lv_if_gt hx hb hd ht (fun q => ?_) (fun q => ?_)
    · rw [lg_cmp_gt, Int64.lt_iff_toInt_lt, ex, ey] at q
      rw [(ab_h4 x y).mpr q] at kk; exact kk
    · rw [lg_cmp_gt, Int64.lt_iff_toInt_lt, ex, ey] at q
      rw [ab_bool (b := ab_hold 4 x y) (fun h => q ((ab_h4 x y).mp h))] at kk; exact kk
  · intro hd kk
    refine lv_if_le hx hb hd ht (fun q => ?_) (fun q => ?_)
    · rw [lg_cmp_le, Int64.le_iff_toInt_le, ex, ey] at q
      rw [(ab_h5 x y).mpr q] at kk; exact kk
    · rw [lg_cmp_le, Int64.le_iff_toInt_le, ex, ey] at q
      rw [ab_bool (b := ab_hold 5 x y) (fun h => q ((ab_h5 x y).mp h))] at kk; exact kk
end R1
