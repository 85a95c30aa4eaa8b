/-! THE TABLES' CHECK: what a method's rows must be, by computing. -/
/-- lookups of a method's constant pool: 0 fields 1 ints 2 longs 3 the double 8 4 new 5 arrays 6 methods 7 nest mates' methods 8 Object's constructor 9 fills; of methods: 10 kind (0 static 1 by class 2 constructor) 11 how many parameters; 12 throws 13 copies -/
abbrev ab_KT : Type := (Nat → Nat → Option (Nat × Nat)) × (Nat → Nat → Option Int) × (Nat → Nat → Option Int) × (Nat → Nat → Bool) × (Nat → Nat → Option Nat) × (Nat → Nat → Option Nat) × (Nat → Nat → Option Nat) × (Nat → Nat → Option Nat) × (Nat → Nat → Bool) × (Nat → Nat → Option Nat) × (Nat → Nat) × (Nat → Nat) × (Nat → Nat → Nat → Bool) × (Nat → Nat → Bool)
abbrev ab_kF (K : ab_KT) := K.1
abbrev ab_kI (K : ab_KT) := K.2.1
abbrev ab_kL (K : ab_KT) := K.2.2.1
abbrev ab_kD (K : ab_KT) := K.2.2.2.1
abbrev ab_kN (K : ab_KT) := K.2.2.2.2.1
abbrev ab_kA (K : ab_KT) := K.2.2.2.2.2.1
abbrev ab_kM (K : ab_KT) := K.2.2.2.2.2.2.1
abbrev ab_kX (K : ab_KT) := K.2.2.2.2.2.2.2.1
abbrev ab_kO (K : ab_KT) := K.2.2.2.2.2.2.2.2.1
abbrev ab_kFl (K : ab_KT) := K.2.2.2.2.2.2.2.2.2.1
abbrev ab_kK (K : ab_KT) := K.2.2.2.2.2.2.2.2.2.2.1
abbrev ab_kP (K : ab_KT) := K.2.2.2.2.2.2.2.2.2.2.2.1
abbrev ab_kT (K : ab_KT) := K.2.2.2.2.2.2.2.2.2.2.2.2.1
abbrev ab_kC (K : ab_KT) := K.2.2.2.2.2.2.2.2.2.2.2.2.2
/-- what the lookups say is so -/
def ab_LKa (Z : ab_ZT) (K : ab_KT) : Prop :=
  (∀ y i ci f, ab_kF K y i = some (ci, f) → Cond.fieldLink (ab_zY Z y).cls i ((ab_zCT Z ci).2 f).1 ((ab_zCT Z ci).2 f).2.1 ((ab_zCT Z ci).2 f).2.2.1 ∈ ab_zTW Z ∧ f < ab_zNF Z ci ∧ ab_CL (ab_zcl Z) (ab_zNF Z) (ab_zFT Z) (ab_zTW Z) ci (ab_zCT Z ci).1 (ab_zCT Z ci).2) ∧
  (∀ y i z, ab_kI K y i = some z → Cond.constant (ab_zY Z y).cls i (Int32.ofInt z) ∈ ab_zTW Z) ∧
  (∀ y i z, ab_kL K y i = some z → Cond.constantLong (ab_zY Z y).cls i (Int64.ofInt z) ∈ ab_zTW Z) ∧
  (∀ y i, ab_kD K y i = true → Cond.constantDouble (ab_zY Z y).cls i 0x4020000000000000 ∈ ab_zTW Z) ∧
  (∀ y i ci, ab_kN K y i = some ci → Cond.classLink (ab_zY Z y).cls i (ab_zCT Z ci).1 ∈ ab_zTW Z ∧ Cond.instantiable (ab_zCT Z ci).1 (ab_zNF Z ci) ∈ ab_zTW Z ∧ Cond.initialized (ab_zCT Z ci).1 ∈ ab_zTW Z ∧ ab_CL (ab_zcl Z) (ab_zNF Z) (ab_zFT Z) (ab_zTW Z) ci (ab_zCT Z ci).1 (ab_zCT Z ci).2) ∧
  (∀ y i t, ab_kA K y i = some t → (t ≤ 1 → Cond.classLink (ab_zY Z y).cls i ("[" ++ (FieldType.array (ab_et t)).toString) ∈ ab_zTW Z) ∧ (t = 5 → Cond.classLink (ab_zY Z y).cls i (FieldType.array .long).toString ∈ ab_zTW Z)) ∧
  (∀ t, t ≤ 2 → Cond.arrayClass (ab_et t) ∈ ab_zTW Z)
def ab_LKb (Z : ab_ZT) (K : ab_KT) : Prop :=
  (∀ y i y2, ab_kM K y i = some y2 → Cond.methodLink (ab_zY Z y).cls i (ab_zY Z y2) ∈ ab_zTW Z) ∧
  (∀ y i y2, ab_kX K y i = some y2 → ab_zHT Z y2 = [] ∧ ∃ host, Cond.methodLinkNest (ab_zY Z y).cls i (ab_zY Z y2) host ∈ ab_zNW Z) ∧
  (∀ y i, ab_kO K y i = true → Cond.methodLink (ab_zY Z y).cls i Lib.objectInit ∈ ab_zTW Z) ∧ (Cond.instanceMethod Lib.objectInit ∈ ab_zTW Z ∧ Cond.code Lib.objectInit ⟨#[0xb1]⟩ 1 none ∈ ab_zTW Z) ∧
  (∀ y i t, ab_kFl K y i = some t → t ≤ 1 ∧ Cond.methodLink (ab_zY Z y).cls i (ab_fillN t) ∈ ab_zTW Z ∧ Cond.static (ab_fillN t) ∈ ab_zTW Z ∧ Cond.initialized "java/util/Arrays" ∈ ab_zTW Z ∧ Cond.code (ab_fillN t) (ab_fillB t) (ab_fillL t) none ∈ ab_zTW Z) ∧
  (∀ y2 i y, (ab_kM K y i = some y2 ∨ ab_kX K y i = some y2) → ab_MK Z y2 ∧ (parseMethodDescriptor (ab_zY Z y2).desc).map (fun d => d.parameters.length) = some (ab_kP K y2) ∧
    ((ab_kK K y2 = 0 ∧ Cond.static (ab_zY Z y2) ∈ ab_zTW Z) ∨ (ab_kK K y2 = 1 ∧ ab_zHT Z y2 = [] ∧ Cond.instanceMethod (ab_zY Z y2) ∈ ab_zTW Z ∧ Cond.selects (ab_zY Z y2).cls (ab_zY Z y2) (ab_zY Z y2) ∈ ab_zTW Z) ∨ (ab_kK K y2 = 2 ∧ ab_zHT Z y2 = [] ∧ ab_zRT Z y2 = none ∧ (ab_zY Z y2).name = "<init>" ∧ Cond.instanceMethod (ab_zY Z y2) ∈ ab_zTW Z))) ∧
  (∀ y i, ab_kC K y i = true → Cond.methodLink (ab_zY Z y).cls i arraycopyName ∈ ab_zTW Z ∧ Cond.native arraycopyName ∈ ab_zTW Z ∧ Cond.static arraycopyName ∈ ab_zTW Z ∧ Cond.initialized "java/lang/System" ∈ ab_zTW Z) ∧
  (∀ y pc x1 ins len, ab_kT K y pc x1 = true → decode (ab_zCB Z y) pc = .ok (ins, len) → ab_E33 Z y pc x1 ins len)
noncomputable def ab_same (a b : Int32) : Bool := decide (a = b)
noncomputable def ab_sameL (a b : Int64) : Bool := decide (a = b)
/-- a place by its number -/
noncomputable def ab_tgb (Z : ab_ZT) (y x : Nat) (tgt : Int) : Bool := match ab_dr x (ab_zP Z y).1 with
  | [] => true
  | e :: _ => ab_eq tgt (.ofNat e.1)
theorem ab_tgb_ok {Z : ab_ZT} {y x : Nat} {tgt : Int} (h : ab_tgb Z y x tgt = true) (t : Nat) (ht : tgt = (t : Int)) : ab_tg Z y x t := by
  intro e r he
  unfold ab_tgb at h
  rw [he] at h
  have := (ab_eq_iff _ _).mp h
  have e9 : Int.ofNat e.1 = (e.1 : Int) := rfl
  omega
noncomputable def ab_q0 (K : ab_KT) (y : Nat) (ins : Instr) (len : Nat) (A : Int) : Bool := bif ab_inR 0 A A then (match ins with
  | .iconst n => bif ab_same (Int32.ofInt n) (Int32.ofInt A) then Nat.beq len 1 else false
  | .bipush n => bif ab_same (Int8.ofInt n).toInt32 (Int32.ofInt A) then Nat.beq len 2 else false
  | .sipush n => bif ab_same (Int16.ofInt n).toInt32 (Int32.ofInt A) then Nat.beq len 3 else false
  | .ldc i => (match ab_kI K y i with
    | some z => bif ab_eq z A then Nat.beq len 2 else false
    | none => false)
  | .ldc_w i => (match ab_kI K y i with
    | some z => bif ab_eq z A then Nat.beq len 3 else false
    | none => false)
  | _ => false) else false
noncomputable def ab_q1 (K : ab_KT) (y : Nat) (ins : Instr) (len : Nat) (A : Int) : Bool := bif ab_inR 1 A A then (match ins with
  | .lconst n => bif ab_sameL (Int64.ofNat n.val) (Int64.ofInt A) then Nat.beq len 1 else false
  | .ldc2_w i => (match ab_kL K y i with
    | some z => bif ab_eq z A then Nat.beq len 3 else false
    | none => false)
  | _ => false) else false
noncomputable def ab_q2 (K : ab_KT) (y : Nat) (ins : Instr) (len : Nat) : Bool := match ins with
  | .ldc2_w i => bif ab_kD K y i then Nat.beq len 3 else false
  | _ => false
noncomputable def ab_q3 (ins : Instr) (len tg i : Nat) : Bool := match ins with
  | .iload_n k => bif Nat.beq tg 0 then (bif Nat.beq k.val i then Nat.beq len 1 else false) else false
  | .iload j => bif Nat.beq tg 0 then (bif Nat.beq j i then Nat.beq len 2 else false) else false
  | .lload_n k => bif Nat.beq tg 1 then (bif Nat.beq k.val i then Nat.beq len 1 else false) else false
  | .lload j => bif Nat.beq tg 1 then (bif Nat.beq j i then Nat.beq len 2 else false) else false
  | .aload_n k => bif Nat.beq tg 2 then (bif Nat.beq k.val i then Nat.beq len 1 else false) else false
  | .aload j => bif Nat.beq tg 2 then (bif Nat.beq j i then Nat.beq len 2 else false) else false
  | .dload_n k => bif Nat.beq tg 4 then (bif Nat.beq k.val i then Nat.beq len 1 else false) else false
  | _ => false
noncomputable def ab_q4 (ins : Instr) (len tg i nL : Nat) : Bool := match ins with
  | .istore_n k => bif Nat.beq tg 0 then (bif Nat.beq k.val i then (bif Nat.beq len 1 then Nat.ble (i + 1) nL else false) else false) else false
  | .istore j => bif Nat.beq tg 0 then (bif Nat.beq j i then (bif Nat.beq len 2 then Nat.ble (i + 1) nL else false) else false) else false
  | .lstore_n k => bif Nat.beq tg 1 then (bif Nat.beq k.val i then (bif Nat.beq len 1 then Nat.ble (i + 2) nL else false) else false) else false
  | .lstore j => bif Nat.beq tg 1 then (bif Nat.beq j i then (bif Nat.beq len 2 then Nat.ble (i + 2) nL else false) else false) else false
  | .astore_n k => bif Nat.beq tg 2 then (bif Nat.beq k.val i then (bif Nat.beq len 1 then Nat.ble (i + 1) nL else false) else false) else false
  | .astore j => bif Nat.beq tg 2 then (bif Nat.beq j i then (bif Nat.beq len 2 then Nat.ble (i + 1) nL else false) else false) else false
  | _ => false
noncomputable def ab_q5 (ins : Instr) (len x1 nL : Nat) (A : Int) : Bool := match ins with
  | .iinc j n => bif Nat.beq j x1 then (bif ab_eq n A then (bif Nat.beq len 3 then (bif Nat.ble (x1 + 1) nL then ab_inR 0 A A else false) else false) else false) else false
  | _ => false
noncomputable def ab_q6 (ins : Instr) (len kd op : Nat) : Bool := bif Nat.beq len 1 then (match ins with
  | .iadd => bif Nat.beq kd 0 then Nat.beq op 0 else false | .isub => bif Nat.beq kd 0 then Nat.beq op 1 else false | .imul => bif Nat.beq kd 0 then Nat.beq op 2 else false | .idiv => bif Nat.beq kd 0 then Nat.beq op 3 else false | .irem => bif Nat.beq kd 0 then Nat.beq op 4 else false
  | .iand => bif Nat.beq kd 0 then Nat.beq op 5 else false | .ior => bif Nat.beq kd 0 then Nat.beq op 6 else false | .ixor => bif Nat.beq kd 0 then Nat.beq op 7 else false | .ishl => bif Nat.beq kd 0 then Nat.beq op 8 else false | .ishr => bif Nat.beq kd 0 then Nat.beq op 9 else false
  | .ladd => bif Nat.beq kd 1 then Nat.beq op 0 else false | .lsub => bif Nat.beq kd 1 then Nat.beq op 1 else false | .lmul => bif Nat.beq kd 1 then Nat.beq op 2 else false | .ldiv => bif Nat.beq kd 1 then Nat.beq op 3 else false | .lrem => bif Nat.beq kd 1 then Nat.beq op 4 else false
  | .land => bif Nat.beq kd 1 then Nat.beq op 5 else false | .lor => bif Nat.beq kd 1 then Nat.beq op 6 else false | .lxor => bif Nat.beq kd 1 then Nat.beq op 7 else false
  | _ => false) else false
noncomputable def ab_q7 (ins : Instr) (len x1 : Nat) : Bool := bif Nat.beq len 1 then (match ins with
  | .ineg => Nat.beq x1 0
  | .lneg => Nat.beq x1 1
  | _ => false) else false
/-- the rows without a word more -/
noncomputable def ab_q8 (cl len : Nat) (ins : Instr) : Bool := bif Nat.beq len 1 then (match ins with
  | .i2l => Nat.beq cl 8 | .l2i => Nat.beq cl 9 | .i2d => Nat.beq cl 10 | .ddiv => Nat.beq cl 11 | .dup => Nat.beq cl 12 | .dup2 => Nat.beq cl 13 | .pop => Nat.beq cl 14 | .pop2 => Nat.beq cl 15
  | .arraylength => Nat.beq cl 37 | .aastore => Nat.beq cl 44
  | _ => false) else false
noncomputable def ab_cb (c : Nat) (d : ClassFile.Cond) : Bool := match d with
  | .eq => Nat.beq c 0 | .ne => Nat.beq c 1 | .lt => Nat.beq c 2 | .ge => Nat.beq c 3 | .gt => Nat.beq c 4 | .le => Nat.beq c 5
theorem ab_cb_ok {c : Nat} {d : ClassFile.Cond} (h : ab_cb c d = true) : c ≤ 5 ∧ d = ab_cn c := by
  unfold ab_cb at h
  cases d <;> (have e := ab_beq h; subst e; exact ⟨by omega, rfl⟩)
noncomputable def ab_q20 (Z : ab_ZT) (y pc len : Nat) (ins : Instr) (x1 : Nat) : Bool := bif Nat.beq len 3 then (match ins with
  | .goto off => bif ab_le 0 ((pc : Int) + off) then ab_tgb Z y x1 ((pc : Int) + off) else false
  | _ => false) else false
noncomputable def ab_q21 (Z : ab_ZT) (y pc len : Nat) (ins : Instr) (x1 x2 : Nat) : Bool := bif Nat.beq len 3 then (match ins with
  | .ifCond d off => bif ab_cb x1 d then (bif ab_le 0 ((pc : Int) + off) then ab_tgb Z y x2 ((pc : Int) + off) else false) else false
  | _ => false) else false
noncomputable def ab_q22 (Z : ab_ZT) (y pc len : Nat) (ins : Instr) (x1 x2 : Nat) : Bool := bif Nat.beq len 3 then (match ins with
  | .if_icmp d off => bif ab_cb x1 d then (bif ab_le 0 ((pc : Int) + off) then ab_tgb Z y x2 ((pc : Int) + off) else false) else false
  | _ => false) else false
noncomputable def ab_q23 (Z : ab_ZT) (y pc len : Nat) (ins : Instr) (x1 x2 : Nat) (rest : List ab_E) : Bool := bif Nat.beq len 1 then (match ins with
  | .lcmp => (match decode (ab_zCB Z y) (pc + 1) with
    | .ok (i2, l2) => bif ab_q21 Z y (pc + 1) l2 i2 x1 x2 then (match rest with
      | _ :: e3 :: _ => Nat.beq e3.1 (pc + 4)
      | _ => true) else false
    | .error _ => false)
  | _ => false) else false
noncomputable def ab_q24b (Z : ab_ZT) (y pc : Nat) (offs : Array Int) (Xs : List Nat) (j : Nat) : Bool := List.rec (motive := fun _ => Nat → Bool) (fun _ => true) (fun t _ r j => bif (match offs[j]? with
  | some off => bif ab_le 0 ((pc : Int) + off) then ab_tgb Z y t ((pc : Int) + off) else false
  | none => false) then r (j + 1) else false) Xs j
noncomputable def ab_q24 (Z : ab_ZT) (y pc : Nat) (ins : Instr) (A : Int) (x1 : Nat) (Xs : List Nat) : Bool := match ins with
  | .tableswitch dflt lo hi offs => bif ab_eq lo A then (bif ab_eq hi (A + .ofNat Xs.length - 1) then (bif ab_le 0 ((pc : Int) + dflt) then (bif ab_tgb Z y x1 ((pc : Int) + dflt) then ab_q24b Z y pc offs Xs 0 else false) else false) else false) else false
  | _ => false
noncomputable def ab_q25 (Z : ab_ZT) (y pc : Nat) (ins : Instr) (A : Int) (x1 : Nat) : Bool := match ins with
  | .lookupswitch dflt ps => bif (ps.toList.zip (ps.toList.drop 1)).all (fun (a, next) => a.1 < next.1) then (bif ab_le 0 ((pc : Int) + Op.lookupswitch.offset ps.toList dflt A) then ab_tgb Z y x1 ((pc : Int) + Op.lookupswitch.offset ps.toList dflt A) else false) else false
  | _ => false
noncomputable def ab_q30 (Z : ab_ZT) (K : ab_KT) (y len : Nat) (ins : Instr) (A : Int) (x1 x2 : Nat) : Bool := bif Nat.beq len 3 then (match ins with
  | .getfield i => (match ab_kF K y i with
    | some (ci, f) => bif Nat.beq ci x1 then (bif Nat.beq f x2 then Nat.beq A.toNat (ab_zFT Z x1 x2) else false) else false
    | none => false)
  | _ => false) else false
noncomputable def ab_q31 (Z : ab_ZT) (K : ab_KT) (y len : Nat) (ins : Instr) (A : Int) (x1 x2 : Nat) : Bool := bif Nat.beq len 3 then (match ins with
  | .putfield i => (match ab_kF K y i with
    | some (ci, f) => bif Nat.beq ci x1 then (bif Nat.beq f x2 then (bif Nat.beq A.toNat (ab_zFT Z x1 x2) then (bif ((ab_zCT Z x1).2 x2).2.2.2 then (bif decide ((ab_zY Z y).name = "<init>") then decide (((ab_zCT Z x1).2 x2).1 = (ab_zY Z y).cls) else false) else true) else false) else false) else false
    | none => false)
  | _ => false) else false
noncomputable def ab_q32 (K : ab_KT) (y len : Nat) (ins : Instr) (x1 : Nat) : Bool := bif Nat.beq len 3 then (match ins with
  | .new i => (match ab_kN K y i with
    | some ci => Nat.beq ci x1
    | none => false)
  | _ => false) else false
noncomputable def ab_q34 (len : Nat) (ins : Instr) (x1 : Nat) : Bool := bif Nat.beq len 2 then (match ins with
  | .newarray .int => Nat.beq x1 0
  | .newarray .long => Nat.beq x1 1
  | .newarray .boolean => Nat.beq x1 2
  | _ => false) else false
noncomputable def ab_q35 (K : ab_KT) (y len : Nat) (ins : Instr) (x1 : Nat) : Bool := bif Nat.beq len 4 then (match ins with
  | .multianewarray i 2 => (match ab_kA K y i with
    | some t => bif Nat.ble t 1 then Nat.beq x1 (t + 3) else false
    | none => false)
  | _ => false) else false
noncomputable def ab_q36 (K : ab_KT) (y len : Nat) (ins : Instr) : Bool := bif Nat.beq len 3 then (match ins with
  | .anewarray i => (match ab_kA K y i with
    | some t => Nat.beq t 5
    | none => false)
  | _ => false) else false
noncomputable def ab_q38 (len : Nat) (ins : Instr) (x1 : Nat) : Bool := bif Nat.beq len 1 then (match ins with
  | .iaload => Nat.beq x1 0 | .laload => Nat.beq x1 1 | .baload => Nat.beq x1 2 | .aaload => Nat.beq x1 3
  | _ => false) else false
noncomputable def ab_q39 (len : Nat) (ins : Instr) (x1 : Nat) : Bool := bif Nat.beq len 1 then (match ins with
  | .iastore => Nat.beq x1 0 | .lastore => Nat.beq x1 1 | .bastore => Nat.beq x1 2
  | _ => false) else false
noncomputable def ab_q41 (Z : ab_ZT) (K : ab_KT) (y len : Nat) (ins : Instr) : Bool := bif Nat.beq len 3 then (match ins with
  | .invokespecial i => bif ab_kO K y i then (bif Nat.ble 1 (ab_zFR Z y) then Nat.ble 52 (ab_zLO Z y) else false) else false
  | _ => false) else false
noncomputable def ab_q42 (Z : ab_ZT) (K : ab_KT) (y len : Nat) (ins : Instr) (x1 : Nat) : Bool := bif (bif Nat.beq len 3 then (bif Nat.ble 1 (ab_zFR Z y) then Nat.ble 24 (ab_zLO Z y) else false) else false) then (match ins with
  | .invokestatic i => (match ab_kFl K y i with
    | some t => Nat.beq t x1
    | none => false)
  | _ => false) else false
noncomputable def ab_q43 (Z : ab_ZT) (K : ab_KT) (y len : Nat) (ins : Instr) : Bool := bif (bif Nat.beq len 3 then (bif Nat.ble 1 (ab_zFR Z y) then Nat.ble 100 (ab_zLO Z y) else false) else false) then (match ins with
  | .invokestatic i => ab_kC K y i
  | _ => false) else false
/-- which method a call's instruction names: by class or nest mates -/
noncomputable def ab_lnk (K : ab_KT) (y i y2 : Nat) : Bool := match ab_kM K y i with
  | some z => Nat.beq z y2
  | none => (match ab_kX K y i with
    | some z => Nat.beq z y2
    | none => false)
noncomputable def ab_q40 (Z : ab_ZT) (K : ab_KT) (y len : Nat) (ins : Instr) (y2 n vc mx : Nat) : Bool :=
  bif (bif Nat.beq len 3 then (bif Nat.ble (ab_zFR Z y2 + 1) (ab_zFR Z y) then (bif Nat.ble (40 + (ab_zML Z y2 + 11) + ab_zLO Z y2) (ab_zLO Z y) then Nat.beq mx (ab_zML Z y2) else false) else false) else false) then (match ins with
  | .invokestatic i => bif ab_lnk K y i y2 then (bif Nat.beq (ab_kK K y2) 0 then Nat.beq n (ab_kP K y2) else false) else false
  | .invokevirtual i => bif ab_lnk K y i y2 then (bif Nat.beq (ab_kK K y2) 1 then (bif Nat.beq n (ab_kP K y2 + 1) then (match vc with
    | 0 => false
    | ci + 1 => bif Nat.ble (ci + 1) (ab_zNC Z) then decide ((ab_zCT Z ci).1 = (ab_zY Z y2).cls) else false) else false) else false) else false
  | .invokespecial i => bif ab_lnk K y i y2 then (bif Nat.beq (ab_kK K y2) 2 then (bif Nat.beq n (ab_kP K y2 + 1) then (match vc with
    | 0 => false
    | _ + 1 => true) else false) else false) else false
  | _ => false) else false
noncomputable def ab_q50 (Z : ab_ZT) (y cl x1 len : Nat) (ins : Instr) : Bool := bif Nat.beq len 1 then (match ins, ab_zRT Z y with
  | .return_, none => Nat.beq cl 50
  | .ireturn, some .int => bif Nat.beq cl 51 then Nat.beq x1 0 else false
  | .ireturn, some .boolean => Nat.beq cl 52
  | .lreturn, some .long => bif Nat.beq cl 51 then Nat.beq x1 1 else false
  | .areturn, some (.object _) => bif Nat.beq cl 51 then Nat.beq x1 2 else false
  | .areturn, some (.array _) => bif Nat.beq cl 51 then Nat.beq x1 2 else false
  | _, _ => false) else false
noncomputable def ab_qa (Z : ab_ZT) (K : ab_KT) (y pc cl : Nat) (A : Int) (x1 x2 : Nat) (Xs : List Nat) (rest : List ab_E) (ins : Instr) (len : Nat) : Bool :=
  bif Nat.ble cl 7 then
    (bif Nat.beq cl 3 then ab_q3 ins len x1 x2 else bif Nat.beq cl 0 then ab_q0 K y ins len A else bif Nat.beq cl 4 then ab_q4 ins len x1 x2 (ab_zML Z y) else bif Nat.beq cl 1 then ab_q1 K y ins len A else
    bif Nat.beq cl 5 then ab_q5 ins len x1 (ab_zML Z y) A else bif Nat.beq cl 6 then ab_q6 ins len x1 x2 else bif Nat.beq cl 7 then ab_q7 ins len x1 else ab_q2 K y ins len)
  else bif Nat.ble cl 24 then
    (bif Nat.ble cl 15 then ab_q8 cl len ins else bif Nat.beq cl 20 then ab_q20 Z y pc len ins x1 else bif Nat.beq cl 21 then ab_q21 Z y pc len ins x1 x2 else bif Nat.beq cl 22 then ab_q22 Z y pc len ins x1 x2 else
    bif Nat.beq cl 23 then ab_q23 Z y pc len ins x1 x2 rest else bif Nat.beq cl 24 then ab_q24 Z y pc ins A x1 Xs else false)
  else bif Nat.beq cl 25 then ab_q25 Z y pc ins A x1
  else
    bif Nat.beq cl 30 then ab_q30 Z K y len ins A x1 x2 else bif Nat.beq cl 31 then ab_q31 Z K y len ins A x1 x2 else bif Nat.beq cl 32 then ab_q32 K y len ins x1 else bif Nat.beq cl 33 then ab_kT K y pc x1 else
    bif Nat.beq cl 34 then ab_q34 len ins x1 else bif Nat.beq cl 35 then ab_q35 K y len ins x1 else bif Nat.beq cl 36 then ab_q36 K y len ins else bif Nat.beq cl 37 then ab_q8 cl len ins else bif Nat.beq cl 38 then ab_q38 len ins x1 else bif Nat.beq cl 39 then ab_q39 len ins x1 else
    bif Nat.beq cl 40 then ab_q40 Z K y len ins x1 x2 A.toNat (match Xs with
      | [] => 0
      | mx :: _ => mx) else
    bif Nat.beq cl 41 then ab_q41 Z K y len ins else bif Nat.beq cl 42 then ab_q42 Z K y len ins x1 else bif Nat.beq cl 44 then ab_q8 cl len ins else bif Nat.beq cl 43 then ab_q43 Z K y len ins else
    bif Nat.beq cl 99 then true else ab_q50 Z y cl x1 len ins
noncomputable def ab_ck1 (Z : ab_ZT) (K : ab_KT) (y : Nat) (e : ab_E) (rest : List ab_E) : Bool := match decode (ab_zCB Z y) e.1 with
  | .ok (ins, len) => bif (match rest with
    | [] => true
    | e2 :: _ => Nat.beq e2.1 (e.1 + len)) then ab_qa Z K y e.1 e.2.2.1 e.2.2.2.1 e.2.2.2.2.1 e.2.2.2.2.2.1 e.2.2.2.2.2.2 rest ins len else false
  | .error _ => false
noncomputable def ab_ckr (Z : ab_ZT) (K : ab_KT) (y : Nat) (l : List ab_E) : Bool := List.rec true (fun e rest r => bif ab_ck1 Z K y e rest then r else false) l
noncomputable def ab_ck (Z : ab_ZT) (K : ab_KT) (y : Nat) : Bool := ab_ckr Z K y (ab_zP Z y).1
