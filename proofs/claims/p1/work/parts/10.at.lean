/-! WHAT THE TABLES MUST SAY of a method's rows; what a walk that went well says of the machine. -/
/-- the tables: 0 methods 1 hints 2 how many fields 3 a field's type 4 the cells at the start 5 a method's name 6 its code 7 its locals 8 its type 9, 10 its room, frames and locals 11 words 12 words that move 13 exceptions 14 classes 15 the classes' list 16 how many classes 17 handlers 18 classes that are no others' -/
abbrev ab_ZT : Type := (Nat → ab_M) × (Nat → Nat → Option ab_B) × (Nat → Nat) × (Nat → Nat → Nat) × (Nat → Option ab_C) × (Nat → MethodName) × (Nat → ByteArray) × (Nat → Nat) × (Nat → Option FieldType) × (Nat → Nat) × (Nat → Nat) × List Cond × List Cond × (Nat → String) × (Nat → String × u_T) × List vw_C × Nat × (Nat → List (Nat × Nat × Nat × Nat)) × List (String × String)
abbrev ab_zP (Z : ab_ZT) := Z.1
abbrev ab_zHS (Z : ab_ZT) := Z.2.1
abbrev ab_zNF (Z : ab_ZT) := Z.2.2.1
abbrev ab_zFT (Z : ab_ZT) := Z.2.2.2.1
abbrev ab_zBS (Z : ab_ZT) := Z.2.2.2.2.1
abbrev ab_zY (Z : ab_ZT) := Z.2.2.2.2.2.1
abbrev ab_zCB (Z : ab_ZT) := Z.2.2.2.2.2.2.1
abbrev ab_zML (Z : ab_ZT) := Z.2.2.2.2.2.2.2.1
abbrev ab_zRT (Z : ab_ZT) := Z.2.2.2.2.2.2.2.2.1
abbrev ab_zFR (Z : ab_ZT) := Z.2.2.2.2.2.2.2.2.2.1
abbrev ab_zLO (Z : ab_ZT) := Z.2.2.2.2.2.2.2.2.2.2.1
abbrev ab_zTW (Z : ab_ZT) := Z.2.2.2.2.2.2.2.2.2.2.2.1
abbrev ab_zNW (Z : ab_ZT) := Z.2.2.2.2.2.2.2.2.2.2.2.2.1
abbrev ab_zEN (Z : ab_ZT) := Z.2.2.2.2.2.2.2.2.2.2.2.2.2.1
abbrev ab_zCT (Z : ab_ZT) := Z.2.2.2.2.2.2.2.2.2.2.2.2.2.2.1
abbrev ab_zcl (Z : ab_ZT) := Z.2.2.2.2.2.2.2.2.2.2.2.2.2.2.2.1
abbrev ab_zNC (Z : ab_ZT) := Z.2.2.2.2.2.2.2.2.2.2.2.2.2.2.2.2.1
abbrev ab_zHT (Z : ab_ZT) := Z.2.2.2.2.2.2.2.2.2.2.2.2.2.2.2.2.2.1
abbrev ab_zNX (Z : ab_ZT) := Z.2.2.2.2.2.2.2.2.2.2.2.2.2.2.2.2.2.2
/-- what a launch fixes: class numbers and slots, row types' classes, the script's address, the first new address -/
abbrev ab_UT : Type := va_G × (Nat → ClassId) × Nat × Nat
/-- a state's heap against the walker's -/
abbrev ab_rH (Z : ab_ZT) (U : ab_UT) (n : Nat) (ρ : Nat → Int) (h : ab_H) (H : Heap) : Prop := ab_RH U.1.1 U.1.2 U.2.1 (ab_zNF Z) (ab_zFT Z) (ab_zBS Z) U.2.2.1 U.2.2.2 n ρ h H
abbrev ab_rC (Z : ab_ZT) (U : ab_UT) (n : Nat) (ρ : Nat → Int) (x : ab_C) (oc : Option Cell) : Prop := ab_RC U.1.1 U.1.2 U.2.1 (ab_zNF Z) (ab_zFT Z) U.2.2.1 U.2.2.2 n ρ x oc
abbrev ab_rV (U : ab_UT) (n : Nat) (ρ : Nat → Int) (v : ab_V) (x : Value) : Prop := ab_RV U.2.2.1 U.2.2.2 n ρ v x
abbrev ab_rS (U : ab_UT) (n : Nat) (ρ : Nat → Int) (S : List ab_V) (st : List Value) : Prop := ab_RS U.2.2.1 U.2.2.2 n ρ S st
abbrev ab_rL (U : ab_UT) (n : Nat) (ρ : Nat → Int) (nL : Nat) (L : ab_L) (ls : Array Slot) : Prop := ab_RL U.2.2.1 U.2.2.2 n ρ nL L ls
/-- new addresses -/
def ab_nA (U : ab_UT) (q : Nat) : Prop := U.2.2.2 ≤ q
/-- the array of rows of longs -/
def ab_AOT (ty : FieldType) (U : State) : Prop := (Cond.arrayOver (.array ty)).before #[] U = true
abbrev ab_AOA (U : State) : Prop := ab_AOT .long U
/-- the script's class -/
def ab_SC (U : ab_UT) (st : State) : Prop := ∃ k, st.vm.classes[U.2.1 8]? = some k ∧ ∃ comp, k.kind = .array comp .int
/-- what holds of every state of the launch from the start on -/
def ab_KH (Z : ab_ZT) (U : ab_UT) (st : State) : Prop := va_K U.1 (ab_zcl Z) (ab_tys U.2.1) st ∧ (∀ w ∈ ab_zNW Z, va_Nw w st) ∧ ab_AOA st ∧ (∀ q ∈ ab_zNX Z, va_Nc q.1 q.2 st) ∧ vx_Zq Bundle.tN "UNASSIGNED_STACK" Bundle.steD (ab_nA U) st st.heap ∧ vx_Zq Bundle.tN "SUPPRESSED_SENTINEL" Bundle.listD (ab_nA U) st st.heap ∧ ab_AOT .int st ∧ ab_SC U st
/-- a place of a method's rows by its number -/
def ab_tg (Z : ab_ZT) (y x tgt : Nat) : Prop := ∀ e r, ab_dr x (ab_zP Z y).1 = e :: r → e.1 = tgt
/-- a return's instruction, its value -/
def ab_kr (ret : Option FieldType) (st : List Value) (ins : Instr) : Prop := match ins with
  | .return_ => ret = none ∧ st = []
  | .ireturn => (ret = some .int ∧ ∃ v, st = [.int v]) ∨ (ret = some .boolean ∧ ∃ v, st = [.int v] ∧ narrow .boolean (.int v) = .int v)
  | .lreturn => ret = some .long ∧ ∃ v, st = [.long v]
  | .areturn => (∃ rt, ret = some rt ∧ ((∃ n, rt = .object n) ∨ ∃ t, rt = .array t)) ∧ ∃ a, st = [.ref a]
  | _ => False
