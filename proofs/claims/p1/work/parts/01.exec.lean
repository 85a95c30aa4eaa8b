/-! THE WALKER: bytecode over intervals. A scalar is a number or a variable; a value: an int, a long, a cell by its number, else 0 null 1 a double made of an int 2 some reference 3 the double 8 4 some double. All that changes is a list of pairs, the newest first. -/
abbrev ab_S : Type := Int ⊕ Nat
abbrev ab_V : Type := (ab_S ⊕ ab_S) ⊕ (Nat ⊕ Nat)
abbrev ab_F : Type := Nat × ab_S × ab_S
abbrev ab_D : Type := Nat × ab_S × ab_S × Nat
/-- how many variables, what each may be, facts of two scalars, sums and the like that have a variable -/
abbrev ab_G : Type := Nat × List (Nat × (Int × Int)) × List ab_F × List ab_D
abbrev ab_L : Type := List (Nat × ab_V)
abbrev ab_A : Type := Option (ab_V × ab_L)
/-- an object: its class, its fields; a row: its type, its length, what it holds (none: forgotten) -/
abbrev ab_C : Type := (Nat × ab_L) ⊕ (Nat × Nat × ab_A)
/-- the heap: how many cells, the cells that are not the base's -/
abbrev ab_H : Type := Nat × List (Nat × ab_C)
/-- a row: pc, flag, class, number, three small ones, more -/
abbrev ab_E : Type := Nat × Nat × Nat × Int × Nat × Nat × List Nat
abbrev ab_K : Type := Nat → Nat → List ab_V → ab_L → ab_G → ab_H → Nat → Nat → Bool
abbrev ab_X : Type := Nat → List Nat → Bool → List ab_E → ab_L → List ab_V → ab_G → ab_H → Nat → Nat → ab_K → Bool
abbrev ab_M : Type := List ab_E × Nat × Nat × List (Nat × Nat × Nat × Nat)
noncomputable def ab_le : Int → Int → Bool
  | .ofNat a, .ofNat b => Nat.ble a b
  | .ofNat _, .negSucc _ => false
  | .negSucc _, .ofNat _ => true
  | .negSucc a, .negSucc b => Nat.ble b a
noncomputable def ab_eq : Int → Int → Bool
  | .ofNat a, .ofNat b => Nat.beq a b
  | .ofNat _, .negSucc _ => false
  | .negSucc _, .ofNat _ => false
  | .negSucc a, .negSucc b => Nat.beq a b
noncomputable def ab_min (a b : Int) : Int := bif ab_le a b then a else b
noncomputable def ab_max (a b : Int) : Int := bif ab_le a b then b else a
/-- the first of a number -/
noncomputable def ab_lk {α : Type} (l : List (Nat × α)) (i : Nat) : Option α := List.rec none (fun q _ r => bif Nat.beq q.1 i then some q.2 else r) l
noncomputable def ab_at {α : Type} (l : List α) (i : Nat) : Option α := List.rec (motive := fun _ => Nat → Option α) (fun _ => none) (fun a _ r i => Nat.casesOn i (some a) r) l i
noncomputable def ab_dr {α : Type} (i : Nat) (l : List α) : List α := Nat.rec (motive := fun _ => List α → List α) (fun l => l) (fun _ r l => List.casesOn l [] (fun _ t => r t)) i l
noncomputable def ab_all {α : Type} (f : α → Bool) (l : List α) : Bool := List.rec true (fun a _ r => bif f a then r else false) l
noncomputable def ab_seq : ab_S → ab_S → Bool
  | .inl a, .inl b => ab_eq a b
  | .inr a, .inr b => Nat.beq a b
  | _, _ => false
noncomputable def ab_ivI (G : ab_G) (i : Nat) : Int × Int := match ab_lk G.2.1 i with
  | some p => p
  | none => (1, 0)
noncomputable def ab_ivS (G : ab_G) : ab_S → Int × Int
  | .inl c => (c, c)
  | .inr i => ab_ivI G i
noncomputable def ab_nm (G : ab_G) : ab_S → ab_S
  | .inl c => .inl c
  | .inr i => match ab_ivI G i with
    | (p, q) => bif ab_eq p q then .inl p else .inr i
/-- kind 0: ints, else longs -/
noncomputable def ab_lo (k : Nat) : Int := bif Nat.beq k 0 then .negSucc 2147483647 else .negSucc 9223372036854775807
noncomputable def ab_hi (k : Nat) : Int := bif Nat.beq k 0 then .ofNat 2147483647 else .ofNat 9223372036854775807
noncomputable def ab_inR (k : Nat) (p q : Int) : Bool := bif ab_le (ab_lo k) p then ab_le q (ab_hi k) else false
noncomputable def ab_w (k : Nat) (z : Int) : Int := bif ab_inR k z z then z else (bif Nat.beq k 0 then Int.bmod z 4294967296 else Int.bmod z 18446744073709551616)
/-- a new variable between two numbers -/
noncomputable def ab_fr (G : ab_G) (p q : Int) (f : ab_S → ab_G → Bool) : Bool := bif ab_eq p q then f (.inl p) G else f (.inr G.1) (G.1 + 1, (G.1, (p, q)) :: G.2.1, G.2.2)
noncomputable def ab_find (op : Nat) (a b : ab_S) (l : List ab_D) : Option Nat := List.rec none (fun d _ r => bif (bif Nat.beq d.1 op then (bif ab_seq d.2.1 a then ab_seq d.2.2.1 b else false) else false) then some d.2.2.2 else r) l
noncomputable def ab_fd (G : ab_G) (op : Nat) (a b : ab_S) (p q : Int) (f : ab_S → ab_G → Bool) : Bool :=
  match ab_find op a b G.2.2.2 with
  | some r => f (ab_nm G (.inr r)) G
  | none => bif ab_eq p q then f (.inl p) G else f (.inr G.1) (G.1 + 1, (G.1, (p, q)) :: G.2.1, G.2.2.1, (op, a, b, G.1) :: G.2.2.2)
/-- the machine's own answers: 0 add 1 sub 2 mul 3 div 4 rem 5 and 6 or 7 xor 8 shl 9 shr 10 ushr -/
noncomputable def ab_op32 (op : Nat) (a b : Int32) : Int32 :=
  match op with
  | 0 => a + b | 1 => a - b | 2 => a * b | 3 => a / b | 4 => a - a / b * b | 5 => a &&& b | 6 => a ||| b | 7 => a ^^^ b
  | 8 => a <<< (b &&& 31) | 9 => a >>> (b &&& 31) | _ => (a.toUInt32 >>> (b.toUInt32 &&& Int32.toUInt32 31)).toInt32
noncomputable def ab_op64 (op : Nat) (a b : Int64) : Int64 :=
  match op with
  | 0 => a + b | 1 => a - b | 2 => a * b | 3 => a / b | 4 => a - a / b * b | 5 => a &&& b | 6 => a ||| b | 7 => a ^^^ b
  | 8 => a <<< (b &&& 63) | 9 => a >>> (b &&& 63) | _ => (a.toUInt64 >>> (b.toUInt64 &&& Int64.toUInt64 63)).toInt64
noncomputable def ab_opZ (k op : Nat) (a b : Int) : Int := bif Nat.beq k 0 then (ab_op32 op (Int32.ofInt a) (Int32.ofInt b)).toInt else (ab_op64 op (Int64.ofInt a) (Int64.ofInt b)).toInt
noncomputable def ab_co (k op : Nat) (a b : Int) : Int :=
  bif Nat.beq op 0 then ab_w k (a + b) else bif Nat.beq op 1 then ab_w k (a - b) else bif Nat.beq op 2 then ab_w k (a * b) else
  bif Nat.beq op 3 then ab_w k (Int.tdiv a b) else bif Nat.beq op 4 then Int.tmod a b else ab_opZ k op a b
noncomputable def ab_full (k : Nat) (G : ab_G) (f : ab_S → ab_G → Bool) : Bool := ab_fr G (ab_lo k) (ab_hi k) f
noncomputable def ab_mk (k : Nat) (G : ab_G) (op : Nat) (a b : ab_S) (p q : Int) (f : ab_S → ab_G → Bool) : Bool := bif ab_inR k p q then ab_fd G op a b p q f else ab_full k G f
noncomputable def ab_nw (k : Nat) (G : ab_G) (p q : Int) (f : ab_S → ab_G → Bool) : Bool := bif ab_inR k p q then ab_fr G p q f else ab_full k G f
noncomputable def ab_add (k : Nat) (G : ab_G) (a b : ab_S) (f : ab_S → ab_G → Bool) : Bool :=
  bif ab_seq b (.inl 0) then f a G else bif ab_seq a (.inl 0) then f b G else ab_mk k G 0 a b ((ab_ivS G a).1 + (ab_ivS G b).1) ((ab_ivS G a).2 + (ab_ivS G b).2) f
noncomputable def ab_sub (k : Nat) (G : ab_G) (a b : ab_S) (f : ab_S → ab_G → Bool) : Bool :=
  bif ab_seq b (.inl 0) then f a G else bif ab_seq a b then f (.inl 0) G else
    match b with
    | .inl c => ab_mk k G 0 a (.inl (-c)) ((ab_ivS G a).1 - c) ((ab_ivS G a).2 - c) f
    | .inr i => ab_mk k G 1 a (.inr i) ((ab_ivS G a).1 - (ab_ivI G i).2) ((ab_ivS G a).2 - (ab_ivI G i).1) f
/-- a number by a variable, the variable told first -/
noncomputable def ab_mulc (k : Nat) (G : ab_G) (i : Nat) (c : Int) (f : ab_S → ab_G → Bool) : Bool :=
  bif ab_eq c 1 then f (.inr i) G else bif ab_eq c 0 then f (.inl 0) G else
  bif ab_le 0 c then ab_mk k G 2 (.inr i) (.inl c) ((ab_ivI G i).1 * c) ((ab_ivI G i).2 * c) f else ab_mk k G 2 (.inr i) (.inl c) ((ab_ivI G i).2 * c) ((ab_ivI G i).1 * c) f
noncomputable def ab_mul (k : Nat) (G : ab_G) (a b : ab_S) (f : ab_S → ab_G → Bool) : Bool :=
  match a, b with
  | .inl c, .inr i => ab_mulc k G i c f
  | .inr i, .inl c => ab_mulc k G i c f
  | .inr i, .inr j => bif (bif ab_le 0 (ab_ivI G i).1 then ab_le 0 (ab_ivI G j).1 else false) then ab_mk k G 2 (.inr i) (.inr j) ((ab_ivI G i).1 * (ab_ivI G j).1) ((ab_ivI G i).2 * (ab_ivI G j).2) f else ab_full k G f
  | .inl _, .inl _ => false
noncomputable def ab_div (k : Nat) (G : ab_G) (a b : ab_S) (f : ab_S → ab_G → Bool) : Bool :=
  bif ab_le 1 (ab_ivS G b).1 then
    match b with
    | .inl c => bif ab_eq c 1 then f a G else ab_mk k G 3 a (.inl c) (Int.tdiv (ab_ivS G a).1 c) (Int.tdiv (ab_ivS G a).2 c) f
    | .inr i => ab_mk k G 3 a (.inr i) (ab_min (ab_ivS G a).1 0) (ab_max (ab_ivS G a).2 0) f
  else false
/-- the divisor is a rest by the other one -/
noncomputable def ab_ltd (l : List ab_D) (a : ab_S) (j : Nat) : Bool := List.rec false (fun d _ r => bif (bif Nat.beq d.1 4 then (bif ab_seq d.2.2.1 a then Nat.beq d.2.2.2 j else false) else false) then true else r) l
noncomputable def ab_rhi (G : ab_G) (a b : ab_S) : Int := match b with
  | .inl c => c - 1
  | .inr j => bif ab_ltd G.2.2.2 a j then ab_min ((ab_ivI G j).2 - 1) ((ab_ivS G a).2 / 2) else (ab_ivI G j).2 - 1
noncomputable def ab_rem (k : Nat) (G : ab_G) (a b : ab_S) (f : ab_S → ab_G → Bool) : Bool :=
  bif ab_le 1 (ab_ivS G b).1 then
    (bif ab_le 0 (ab_ivS G a).1 then ab_mk k G 4 a b 0 (ab_rhi G a b) f else ab_mk k G 4 a b (1 - (ab_ivS G b).2) ((ab_ivS G b).2 - 1) f)
  else false
noncomputable def ab_and (k : Nat) (G : ab_G) (a b : ab_S) (f : ab_S → ab_G → Bool) : Bool :=
  bif ab_le 0 (ab_ivS G b).1 then ab_nw k G 0 (ab_ivS G b).2 f else bif ab_le 0 (ab_ivS G a).1 then ab_nw k G 0 (ab_ivS G a).2 f else ab_full k G f
noncomputable def ab_xor (k : Nat) (G : ab_G) (a b : ab_S) (f : ab_S → ab_G → Bool) : Bool :=
  bif (bif ab_le 0 (ab_ivS G a).1 then ab_le 0 (ab_ivS G b).1 else false) then ab_nw k G 0 (ab_hi k) f else ab_full k G f
noncomputable def ab_shr (k : Nat) (G : ab_G) (a : ab_S) (f : ab_S → ab_G → Bool) : Bool :=
  bif ab_le 0 (ab_ivS G a).1 then ab_nw k G 0 (ab_ivS G a).2 f else ab_full k G f
noncomputable def ab_ar2 (k op : Nat) (G : ab_G) (a b : ab_S) (f : ab_S → ab_G → Bool) : Bool :=
  bif Nat.beq op 0 then ab_add k G a b f else bif Nat.beq op 1 then ab_sub k G a b f else bif Nat.beq op 2 then ab_mul k G a b f else
  bif Nat.beq op 3 then ab_div k G a b f else bif Nat.beq op 4 then ab_rem k G a b f else bif Nat.beq op 5 then ab_and k G a b f else
  bif Nat.beq op 7 then ab_xor k G a b f else bif Nat.beq op 9 then ab_shr k G a f else ab_full k G f
noncomputable def ab_ar (k op : Nat) (G : ab_G) (a0 b0 : ab_S) (f : ab_S → ab_G → Bool) : Bool :=
  match ab_nm G a0, ab_nm G b0 with
  | .inl x, .inl y => bif (bif (bif Nat.beq op 3 then true else Nat.beq op 4) then ab_eq y 0 else false) then false else f (.inl (ab_co k op x y)) G
  | .inl x, .inr j => ab_ar2 k op G (.inl x) (.inr j) f
  | .inr i, .inl y => ab_ar2 k op G (.inr i) (.inl y) f
  | .inr i, .inr j => ab_ar2 k op G (.inr i) (.inr j) f
/-- conditions: 0 eq 1 ne 2 lt 3 ge 4 gt 5 le -/
noncomputable def ab_ng (c : Nat) : Nat := bif Nat.beq c 0 then 1 else bif Nat.beq c 1 then 0 else bif Nat.beq c 2 then 3 else bif Nat.beq c 3 then 2 else bif Nat.beq c 4 then 5 else 4
noncomputable def ab_fl (c : Nat) : Nat := bif Nat.beq c 2 then 4 else bif Nat.beq c 4 then 2 else bif Nat.beq c 3 then 5 else bif Nat.beq c 5 then 3 else c
/-- c1 says c2 of the same two -/
noncomputable def ab_im (c1 c2 : Nat) : Bool :=
  bif Nat.beq c1 c2 then true else bif Nat.beq c1 0 then (bif Nat.beq c2 3 then true else Nat.beq c2 5) else bif Nat.beq c1 2 then (bif Nat.beq c2 5 then true else Nat.beq c2 1) else
  bif Nat.beq c1 4 then (bif Nat.beq c2 3 then true else Nat.beq c2 1) else false
noncomputable def ab_known (c : Nat) (a b : ab_S) (l : List ab_F) : Option Bool := List.rec none (fun d _ r =>
    bif (bif ab_seq d.2.1 a then ab_seq d.2.2 b else false) then (bif ab_im d.1 c then some true else bif ab_im d.1 (ab_ng c) then some false else r) else
    bif (bif ab_seq d.2.1 b then ab_seq d.2.2 a else false) then (bif ab_im (ab_fl d.1) c then some true else bif ab_im (ab_fl d.1) (ab_ng c) then some false else r) else r) l
noncomputable def ab_ct (G : ab_G) (a : ab_S) (p q : Int) : ab_G := match a with
  | .inl _ => G
  | .inr i => (G.1, (i, (p, q)) :: G.2.1, G.2.2)
/-- what a condition leaves: the two intervals cut, and for two variables the fact; an empty interval: nothing -/
noncomputable def ab_one (c : Nat) (a b : ab_S) (p1 q1 p2 q2 : Int) (G : ab_G) (f : ab_G → Bool) : Bool :=
  bif (bif ab_le p1 q1 then ab_le p2 q2 else false) then
    match a, b with
    | .inr i, .inr j => f (G.1, (i, (p1, q1)) :: (j, (p2, q2)) :: G.2.1, (c, .inr i, .inr j) :: G.2.2.1, G.2.2.2)
    | .inr i, .inl _ => f (G.1, (i, (p1, q1)) :: G.2.1, G.2.2)
    | .inl _, .inr j => f (G.1, (j, (p2, q2)) :: G.2.1, G.2.2)
    | .inl _, .inl _ => true
  else true
noncomputable def ab_side (c : Nat) (a b : ab_S) (p q : Int × Int) (G : ab_G) (f : ab_G → Bool) : Bool :=
  bif Nat.beq c 0 then ab_one 0 a b (ab_max p.1 q.1) (ab_min p.2 q.2) (ab_max p.1 q.1) (ab_min p.2 q.2) G f else
  bif Nat.beq c 2 then ab_one 2 a b p.1 (ab_min p.2 (q.2 - 1)) (ab_max q.1 (p.1 + 1)) q.2 G f else
  bif Nat.beq c 3 then ab_one 3 a b (ab_max p.1 q.1) p.2 q.1 (ab_min q.2 p.2) G f else
  bif Nat.beq c 4 then ab_one 4 a b (ab_max p.1 (q.1 + 1)) p.2 q.1 (ab_min q.2 (p.2 - 1)) G f else
  bif Nat.beq c 5 then ab_one 5 a b p.1 (ab_min p.2 q.2) (ab_max q.1 p.1) q.2 G f else
  match a, b with
  | .inr i, .inr j => f (G.1, G.2.1, (1, .inr i, .inr j) :: G.2.2.1, G.2.2.2)
  | a, b => bif ab_one 2 a b p.1 (ab_min p.2 (q.2 - 1)) (ab_max q.1 (p.1 + 1)) q.2 G f then ab_one 4 a b (ab_max p.1 (q.1 + 1)) p.2 q.1 (ab_min q.2 (p.2 - 1)) G f else false
noncomputable def ab_hold (c : Nat) (x y : Int) : Bool :=
  bif Nat.beq c 0 then ab_eq x y else bif Nat.beq c 1 then (bif ab_eq x y then false else true) else bif Nat.beq c 2 then (bif ab_le y x then false else true) else
  bif Nat.beq c 3 then ab_le y x else bif Nat.beq c 4 then (bif ab_le x y then false else true) else ab_le x y
noncomputable def ab_br2 (c : Nat) (a b : ab_S) (G : ab_G) (f : Bool → ab_G → Bool) : Bool :=
  bif ab_seq a b then f (ab_hold c 0 0) G else
    match ab_known c a b G.2.2.1 with
    | some t => f t G
    | none => bif ab_side c a b (ab_ivS G a) (ab_ivS G b) G (f true) then ab_side (ab_ng c) a b (ab_ivS G a) (ab_ivS G b) G (f false) else false
noncomputable def ab_br (c : Nat) (a0 b0 : ab_S) (G : ab_G) (f : Bool → ab_G → Bool) : Bool :=
  match ab_nm G a0, ab_nm G b0 with
  | .inl x, .inl y => f (ab_hold c x y) G
  | .inl x, .inr j => ab_br2 c (.inl x) (.inr j) G f
  | .inr i, .inl y => ab_br2 c (.inr i) (.inl y) G f
  | .inr i, .inr j => ab_br2 c (.inr i) (.inr j) G f
/-- all values from lo on one by one -/
noncomputable def ab_spl (f : Int → Bool) (lo : Int) (n : Nat) : Bool := Nat.rec true (fun j r => bif f (lo + .ofNat j) then r else false) n
noncomputable def ab_wide : ab_V → Bool
  | .inl (.inl _) => false
  | .inl (.inr _) => true
  | .inr (.inl _) => false
  | .inr (.inr t) => bif Nat.beq t 1 then true else bif Nat.beq t 3 then true else Nat.beq t 4
/-- 0 int 1 long 2 reference 4 double -/
noncomputable def ab_tag (t : Nat) : ab_V → Bool
  | .inl (.inl _) => Nat.beq t 0
  | .inl (.inr _) => Nat.beq t 1
  | .inr (.inl _) => Nat.beq t 2
  | .inr (.inr u) => bif Nat.beq t 2 then Nat.beq u 2 else bif Nat.beq t 4 then Nat.beq u 4 else false
noncomputable def ab_sto (i : Nat) (v : ab_V) (L : ab_L) : ab_L :=
  (i, v) :: List.rec [] (fun q _ r => bif (bif Nat.beq q.1 i then true else bif (bif Nat.beq (q.1 + 1) i then ab_wide q.2 else false) then true else bif ab_wide v then Nat.beq q.1 (i + 1) else false) then r else q :: r) L
noncomputable def ab_args (l : List ab_V) (i : Nat) : ab_L := List.rec (motive := fun _ => Nat → ab_L) (fun _ => []) (fun v _ r i => (i, v) :: r (bif ab_wide v then i + 2 else i + 1)) l i
/-- what a place of a type may hold: 0 int 1 long 2 boolean, else references -/
noncomputable def ab_fit (G : ab_G) (ty : Nat) : ab_V → Bool
  | .inl (.inl s) => bif Nat.beq ty 0 then true else bif Nat.beq ty 2 then (bif ab_le 0 (ab_ivS G s).1 then ab_le (ab_ivS G s).2 1 else false) else false
  | .inl (.inr _) => Nat.beq ty 1
  | .inr (.inl _) => Nat.ble 3 ty
  | .inr (.inr t) => bif Nat.ble 3 ty then Nat.beq t 0 else false
noncomputable def ab_def (ty : Nat) : ab_V := bif Nat.beq ty 1 then .inl (.inr (.inl 0)) else bif Nat.ble 3 ty then .inr (.inr 0) else .inl (.inl (.inl 0))
noncomputable def ab_any (G : ab_G) (ty : Nat) (f : ab_V → ab_G → Bool) : Bool :=
  bif Nat.beq ty 0 then ab_fr G (ab_lo 0) (ab_hi 0) (fun s => f (.inl (.inl s))) else
  bif Nat.beq ty 1 then ab_fr G (ab_lo 1) (ab_hi 1) (fun s => f (.inl (.inr s))) else
  bif Nat.beq ty 2 then ab_fr G 0 1 (fun s => f (.inl (.inl s))) else false
noncomputable def ab_nmV (G : ab_G) : ab_V → ab_V
  | .inl (.inl s) => .inl (.inl (ab_nm G s))
  | .inl (.inr s) => .inl (.inr (ab_nm G s))
  | .inr v => .inr v
noncomputable def ab_veq : ab_V → ab_V → Bool
  | .inl (.inl a), .inl (.inl b) => ab_seq a b
  | .inl (.inr a), .inl (.inr b) => ab_seq a b
  | .inr (.inl a), .inr (.inl b) => Nat.beq a b
  | .inr (.inr a), .inr (.inr b) => bif Nat.beq a 0 then Nat.beq b 0 else false
  | _, _ => false
/-- without the newest of a number -/
noncomputable def ab_rm1 {α : Type} (i : Nat) (l : List (Nat × α)) : List (Nat × α) := List.rec [] (fun q t r => bif Nat.beq q.1 i then t else q :: r) l
noncomputable def ab_aupd (G : ab_G) (c : ab_A) (i : ab_S) (v : ab_V) : ab_A :=
  match c with
  | none => none
  | some (d, l) => match ab_nm G i with
    | .inl z => (match l with
      | [] => bif ab_veq (ab_nmV G v) d then some (d, []) else some (d, [(z.toNat, ab_nmV G v)])
      | _ :: _ => some (d, (z.toNat, ab_nmV G v) :: ab_rm1 z.toNat l))
    | .inr _ => match l with
      | [] => bif ab_veq (ab_nmV G v) d then some (d, []) else none
      | _ :: _ => none
noncomputable def ab_han (pc e : Nat) (l : List (Nat × Nat × Nat × Nat)) : Option Nat := List.rec none (fun q _ r => bif (bif Nat.ble q.1 pc then (bif Nat.ble (pc + 1) q.2.1 then Nat.beq q.2.2.1 e else false) else false) then some q.2.2.2 else r) l
section AB
variable (BS : Nat → Option ab_C)
noncomputable def ab_cl (h : ab_H) (c : Nat) : Option ab_C := match ab_lk h.2 c with
  | some x => some x
  | none => BS c
noncomputable def ab_put (h : ab_H) (c : Nat) (x : ab_C) : ab_H := (h.1, (c, x) :: ab_rm1 c h.2)
noncomputable def ab_new (h : ab_H) (x : ab_C) : ab_H := (h.1 + 1, (h.1, x) :: h.2)
/-- the rows that touch locals, stack and numbers alone -/
noncomputable def ab_i3 (tg i : Nat) (L : ab_L) (go : ab_V → Bool) : Bool := match ab_lk L i with
  | some v => bif ab_tag tg v then go v else false
  | none => false
noncomputable def ab_i5 (i : Nat) (A : Int) (L : ab_L) (G : ab_G) (go : ab_V → ab_G → Bool) : Bool := match ab_lk L i with
  | some (.inl (.inl s)) => ab_ar 0 0 G s (.inl A) (fun s' => go (.inl (.inl s')))
  | _ => false
noncomputable def ab_i6 (kd op : Nat) (S : List ab_V) (G : ab_G) (go : List ab_V → ab_G → Bool) : Bool := match S with
  | .inl (.inl b) :: .inl (.inl a) :: S' => bif Nat.beq kd 0 then ab_ar 0 op G a b (fun s => go (.inl (.inl s) :: S')) else false
  | .inl (.inr b) :: .inl (.inr a) :: S' => bif (bif Nat.beq kd 1 then Nat.ble op 7 else false) then ab_ar 1 op G a b (fun s => go (.inl (.inr s) :: S')) else false
  | _ => false
noncomputable def ab_i7 (S : List ab_V) (G : ab_G) (go : List ab_V → ab_G → Bool) (kd : Nat) : Bool := match S with
  | .inl (.inl a) :: S' => bif Nat.beq kd 0 then ab_ar 0 1 G (.inl 0) a (fun s => go (.inl (.inl s) :: S')) else false
  | .inl (.inr a) :: S' => bif Nat.beq kd 1 then ab_ar 1 1 G (.inl 0) a (fun s => go (.inl (.inr s) :: S')) else false
  | _ => false
noncomputable def ab_i8 (S : List ab_V) (go : List ab_V → Bool) : Bool := match S with
  | .inl (.inl a) :: S' => go (.inl (.inr a) :: S')
  | _ => false
noncomputable def ab_i9 (S : List ab_V) (G : ab_G) (go : List ab_V → ab_G → Bool) : Bool := match S with
  | .inl (.inr a) :: S' => (match ab_nm G a with
    | .inl z => go (.inl (.inl (.inl (ab_w 0 z))) :: S') G
    | .inr i => bif ab_inR 0 (ab_ivI G i).1 (ab_ivI G i).2 then go (.inl (.inl (.inr i)) :: S') G else ab_full 0 G (fun s => go (.inl (.inl s) :: S')))
  | _ => false
noncomputable def ab_i10 (S : List ab_V) (go : List ab_V → Bool) : Bool := match S with
  | .inl (.inl _) :: S' => go (.inr (.inr 1) :: S')
  | _ => false
noncomputable def ab_i11 (S : List ab_V) (go : List ab_V → Bool) : Bool := match S with
  | .inr (.inr t) :: .inr (.inr u) :: S' => bif (bif Nat.beq t 3 then Nat.beq u 1 else false) then go (.inr (.inr 4) :: S') else false
  | _ => false
noncomputable def ab_i12 (S : List ab_V) (go : List ab_V → Bool) : Bool := match S with
  | v :: S' => bif ab_wide v then false else go (v :: v :: S')
  | [] => false
noncomputable def ab_i13 (S : List ab_V) (go : List ab_V → Bool) : Bool := match S with
  | v :: S' => bif ab_wide v then go (v :: v :: S') else (match S' with
    | u :: S2 => bif ab_wide u then false else go (v :: u :: v :: u :: S2)
    | [] => false)
  | [] => false
noncomputable def ab_i14 (S : List ab_V) (go : List ab_V → Bool) : Bool := match S with
  | v :: S' => bif ab_wide v then false else go S'
  | [] => false
noncomputable def ab_i15 (S : List ab_V) (go : List ab_V → Bool) : Bool := match S with
  | v :: S' => bif ab_wide v then go S' else false
  | [] => false
noncomputable def ab_i21 (c : Nat) (S : List ab_V) (G : ab_G) (go : List ab_V → Bool → ab_G → Bool) : Bool := match S with
  | .inl (.inl a) :: S' => ab_br c a (.inl 0) G (go S')
  | _ => false
noncomputable def ab_i22 (c : Nat) (S : List ab_V) (G : ab_G) (go : List ab_V → Bool → ab_G → Bool) : Bool := match S with
  | .inl (.inl b) :: .inl (.inl a) :: S' => ab_br c a b G (go S')
  | _ => false
noncomputable def ab_i23 (c : Nat) (S : List ab_V) (G : ab_G) (go : List ab_V → Bool → ab_G → Bool) : Bool := match S with
  | .inl (.inr b) :: .inl (.inr a) :: S' => ab_br c a b G (go S')
  | _ => false
/-- a table's place for a number -/
noncomputable def ab_tb (A : Int) (d : Nat) (ts : List Nat) (z : Int) : Nat := bif ab_le A z then (match ab_at ts (z - A).toNat with
    | some t => t
    | none => d) else d
noncomputable def ab_i24 (A : Int) (d : Nat) (ts : List Nat) (S : List ab_V) (G : ab_G) (go : List ab_V → Nat → ab_G → Bool) : Bool := match S with
  | .inl (.inl a) :: S' => (match ab_nm G a with
    | .inl z => go S' (ab_tb A d ts z) G
    | .inr i =>
      bif (bif ab_le A (ab_ivI G i).1 then true else go S' d (ab_ct G (.inr i) (ab_ivI G i).1 (ab_min (ab_ivI G i).2 (A - 1)))) then
        (bif (bif ab_le (ab_ivI G i).2 (A + .ofNat ts.length - 1) then true else go S' d (ab_ct G (.inr i) (ab_max (ab_ivI G i).1 (A + .ofNat ts.length)) (ab_ivI G i).2)) then
          ab_spl (fun z => go S' (ab_tb A d ts z) (ab_ct G (.inr i) z z)) (ab_max (ab_ivI G i).1 A) (ab_min (ab_ivI G i).2 (A + .ofNat ts.length - 1) + 1 - ab_max (ab_ivI G i).1 A).toNat else false) else false)
  | _ => false
/-- a table by keys: the one number that is told -/
noncomputable def ab_i25 (A : Int) (S : List ab_V) (G : ab_G) (go : List ab_V → Bool) : Bool := match S with
  | .inl (.inl a) :: S' => (match ab_nm G a with
    | .inl z => bif ab_eq z A then go S' else false
    | .inr _ => false)
  | _ => false
/-- the rows that touch the heap -/
noncomputable def ab_i30 (ci f ty : Nat) (S : List ab_V) (h : ab_H) (go : List ab_V → Bool) : Bool := match S with
  | .inr (.inl c) :: S' => (match ab_cl BS h c with
    | some (.inl (cj, fs)) => bif Nat.beq ci cj then (match ab_lk fs f with
      | some v => go (v :: S')
      | none => go (ab_def ty :: S')) else false
    | _ => false)
  | _ => false
noncomputable def ab_i31 (ci f ty : Nat) (S : List ab_V) (G : ab_G) (h : ab_H) (go : List ab_V → ab_H → Bool) : Bool := match S with
  | v :: .inr (.inl c) :: S' => (match ab_cl BS h c with
    | some (.inl (cj, fs)) => bif (bif Nat.beq c 0 then false else bif Nat.beq ci cj then ab_fit G ty v else false) then go S' (ab_put h c (.inl (cj, (f, ab_nmV G v) :: ab_rm1 f fs))) else false
    | _ => false)
  | _ => false
noncomputable def ab_i34 (ty : Nat) (S : List ab_V) (G : ab_G) (h : ab_H) (go : List ab_V → ab_H → Nat → Bool) : Bool := match S with
  | .inl (.inl a) :: S' => (match ab_nm G a with
    | .inl (.ofNat n) => bif Nat.ble n 1000000 then go (.inr (.inl h.1) :: S') (ab_new h (.inr (ty, n, some (ab_def ty, [])))) n else false
    | _ => false)
  | _ => false
/-- n rows of a type and a length, behind one another -/
noncomputable def ab_many (ty b : Nat) (h : ab_H) (n : Nat) : ab_H := Nat.rec h (fun _ r => ab_new r (.inr (ty, b, some (ab_def ty, [])))) n
noncomputable def ab_i35 (ty : Nat) (S : List ab_V) (h : ab_H) (go : List ab_V → ab_H → Nat → Nat → Bool) : Bool := match S with
  | .inl (.inl (.inl (.ofNat b))) :: .inl (.inl (.inl (.ofNat a))) :: S' =>
    bif (bif Nat.ble a 100 then Nat.ble b 10000 else false) then
      go (.inr (.inl h.1) :: S') (ab_many (ty - 3) b (ab_new h (.inr (ty, a, some (.inr (.inr 0), (List.range a).map (fun i => (i, .inr (.inl (h.1 + 1 + i)))))))) a) (1 + a) (a + a * b)
    else false
  | _ => false
noncomputable def ab_i37 (S : List ab_V) (h : ab_H) (go : List ab_V → Bool) : Bool := match S with
  | .inr (.inl c) :: S' => (match ab_cl BS h c with
    | some (.inr (ty, n, _)) => bif (bif Nat.ble ty 4 then true else Nat.beq ty 8) then go (.inl (.inl (.inl (.ofNat n))) :: S') else false
    | _ => false)
  | _ => false
noncomputable def ab_in (n : Nat) (p q : Int) : Bool := bif ab_le 0 p then ab_le (q + 1) (.ofNat n) else false
noncomputable def ab_i38 (ty : Nat) (S : List ab_V) (G : ab_G) (h : ab_H) (go : List ab_V → ab_G → Bool) (re : ab_G → Bool) : Bool := match S with
  | .inl (.inl i) :: .inr (.inl c) :: S' => (match ab_cl BS h c with
    | some (.inr (tz, n, ct)) =>
      bif (bif (bif Nat.beq ty 3 then (bif Nat.ble 3 tz then Nat.ble tz 4 else false) else bif Nat.beq tz 8 then Nat.beq ty 0 else Nat.beq ty tz) then ab_in n (ab_ivS G i).1 (ab_ivS G i).2 else false) then
        (match ct with
        | none => ab_any G tz (fun v => go (v :: S'))
        | some (d, l) => match ab_nm G i with
          | .inl z => (match ab_lk l z.toNat with
            | some v => go (v :: S') G
            | none => go (d :: S') G)
          | .inr j => match l with
            | [] => go (d :: S') G
            | _ :: _ => bif Nat.ble 3 tz then (bif ab_le ((ab_ivI G j).2 - (ab_ivI G j).1) 64 then ab_spl (fun z => re (ab_ct G (.inr j) z z)) (ab_ivI G j).1 ((ab_ivI G j).2 + 1 - (ab_ivI G j).1).toNat else false)
              else ab_any G tz (fun v => go (v :: S')))
      else false
    | _ => false)
  | _ => false
noncomputable def ab_i39 (ty : Nat) (S : List ab_V) (G : ab_G) (h : ab_H) (go : List ab_V → ab_H → Bool) : Bool := match S with
  | v :: .inl (.inl i) :: .inr (.inl c) :: S' => (match ab_cl BS h c with
    | some (.inr (tz, n, ct)) =>
      bif (bif (bif Nat.beq ty tz then (bif Nat.beq c 0 then false else bif Nat.ble 3 ty then false else ab_fit G ty v) else false) then ab_in n (ab_ivS G i).1 (ab_ivS G i).2 else false) then go S' (ab_put h c (.inr (tz, n, ab_aupd G ct i v))) else false
    | _ => false)
  | _ => false
noncomputable def ab_i42 (ty : Nat) (S : List ab_V) (G : ab_G) (h : ab_H) (go : List ab_V → ab_H → Bool) : Bool := match S with
  | v :: .inr (.inl c) :: S' => (match ab_cl BS h c with
    | some (.inr (tz, n, _)) => bif (bif Nat.beq ty tz then (bif Nat.beq c 0 then false else bif Nat.ble 2 ty then false else bif Nat.ble S'.length 4 then ab_fit G ty v else false) else false) then go S' (ab_put h c (.inr (tz, n, some (ab_nmV G v, [])))) else false
    | _ => false)
  | _ => false
/-- a run of numbers from one row to another: the other is forgotten -/
noncomputable def ab_i43 (S : List ab_V) (G : ab_G) (h : ab_H) (go : List ab_V → ab_H → Bool) : Bool := match S with
  | .inl (.inl m) :: .inl (.inl j) :: .inr (.inl d) :: .inl (.inl i) :: .inr (.inl c) :: S' => (match ab_cl BS h c, ab_cl BS h d with
    | some (.inr (tz, n, _)), some (.inr (tw, n2, _)) =>
      bif (bif (bif Nat.beq tz tw then (bif Nat.ble tz 1 then (bif Nat.beq d 0 then false else bif Nat.beq c d then false else Nat.ble S'.length 20) else false) else false) then
        (bif ab_le 0 (ab_ivS G m).1 then (bif ab_le 0 (ab_ivS G i).1 then (bif ab_le 0 (ab_ivS G j).1 then (bif ab_le ((ab_ivS G i).2 + (ab_ivS G m).2) (.ofNat n) then ab_le ((ab_ivS G j).2 + (ab_ivS G m).2) (.ofNat n2) else false) else false) else false) else false)
      else false) then go S' (ab_put h d (.inr (tw, n2, none))) else false
    | _, _ => false)
  | _ => false
noncomputable def ab_i44 (S : List ab_V) (h : ab_H) (go : List ab_V → ab_H → Bool) : Bool := match S with
  | .inr (.inl v) :: .inl (.inl (.inl (.ofNat i))) :: .inr (.inl c) :: S' => (match ab_cl BS h c, ab_cl BS h v with
    | some (.inr (tz, n, some (d, l))), some (.inr (tv, _, _)) => bif (bif (bif Nat.beq tz 4 then Nat.beq tv 1 else false) then (bif Nat.beq c 0 then false else Nat.ble (i + 1) n) else false) then go S' (ab_put h c (.inr (tz, n, some (d, (i, .inr (.inl v)) :: l)))) else false
    | _, _ => false)
  | _ => false
noncomputable def ab_rst (S : List ab_V) (n : Nat) (f : List ab_V → List ab_V → Bool) : Bool := Nat.rec (motive := fun _ => List ab_V → List ab_V → Bool) (fun a S => f a S) (fun _ r a S => List.casesOn S false (fun v T => r (v :: a) T)) n [] S
/-- how many slots arguments take -/
noncomputable def ab_wd (l : List ab_V) : Nat := List.rec 0 (fun v _ r => bif ab_wide v then r + 2 else r + 1) l
/-- a receiver of a class (0: nothing is asked, else its number and one) -/
noncomputable def ab_rcv (vc : Nat) (as : List ab_V) (h : ab_H) : Bool := bif Nat.beq vc 0 then true else match as with
  | .inr (.inl c) :: _ => (match ab_cl BS h c with
    | some (.inl (cj, _)) => Nat.beq (cj + 1) vc
    | _ => false)
  | _ => false
/-- a method's room -/
noncomputable def ab_rm (P : Nat → ab_M) (y cn sn : Nat) : Bool := bif Nat.ble cn (P y).2.1 then Nat.ble sn (P y).2.2.1 else false
noncomputable def ab_call (P : Nat → ab_M) (ih : ab_X) (y : Nat) (cuts : List Nat) (pc y2 n vc mx : Nat) (rest : List ab_E) (L : ab_L) (S : List ab_V) (G : ab_G) (h : ab_H) (cn sn : Nat) (k : ab_K) : Bool :=
  ab_rst S n (fun as S' => bif (bif (bif (bif Nat.ble S'.length 20 then Nat.ble (ab_wd as) mx else false) then ab_rcv BS vc as h else false) then ab_rm P y (cn + (P y2).2.1) (sn + (P y2).2.2.1) else false) then
    ih y2 [] true (P y2).1 (ab_args as 0) [] G h 0 0 (fun kd e S2 L2 G2 h2 cn2 sn2 =>
      bif ab_rm P y2 cn2 sn2 then
        (bif Nat.beq kd 0 then ih y cuts false rest L (S2 ++ S') G2 h2 (cn + (P y2).2.1) (sn + (P y2).2.2.1) k else
        bif Nat.beq kd 1 then (match (P y).2.2.2 with
          | [] => k 1 e [] L G2 h2 (cn + (P y2).2.1) (sn + (P y2).2.2.1)
          | _ :: _ => match ab_han pc e (P y).2.2.2 with
            | some g => ih y cuts false (ab_dr g (P y).1) L [.inr (.inr 2)] G2 h2 (cn + (P y2).2.1) (sn + (P y2).2.2.1) k
            | none => false) else false)
      else false) else false)
noncomputable def ab_b1 (P : Nat → ab_M) (ih : ab_X) (y : Nat) (cuts : List Nat) (pos : List ab_E) (pc cl : Nat) (A : Int) (x1 x2 : Nat) (X : List Nat) (rest : List ab_E) (L : ab_L) (S : List ab_V) (G : ab_G) (h : ab_H) (cn sn : Nat) (k : ab_K) : Bool :=
  bif Nat.ble cl 5 then
    (bif Nat.beq cl 3 then ab_i3 x1 x2 L (fun v => ih y cuts false rest L (v :: S) G h cn sn k) else
    bif Nat.beq cl 0 then ih y cuts false rest L (.inl (.inl (.inl A)) :: S) G h cn sn k else
    bif Nat.beq cl 4 then (match S with
      | v :: S' => bif ab_tag x1 v then ih y cuts false rest (ab_sto x2 v L) S' G h cn sn k else false
      | [] => false) else
    bif Nat.beq cl 1 then ih y cuts false rest L (.inl (.inr (.inl A)) :: S) G h cn sn k else
    bif Nat.beq cl 5 then ab_i5 x1 A L G (fun v G' => ih y cuts false rest (ab_sto x1 v L) S G' h cn sn k) else
    ih y cuts false rest L (.inr (.inr 3) :: S) G h cn sn k)
  else bif Nat.ble cl 15 then
    (bif Nat.beq cl 6 then ab_i6 x1 x2 S G (fun S' G' => ih y cuts false rest L S' G' h cn sn k) else
    bif Nat.beq cl 7 then ab_i7 S G (fun S' G' => ih y cuts false rest L S' G' h cn sn k) x1 else
    bif Nat.beq cl 8 then ab_i8 S (fun S' => ih y cuts false rest L S' G h cn sn k) else
    bif Nat.beq cl 9 then ab_i9 S G (fun S' G' => ih y cuts false rest L S' G' h cn sn k) else
    bif Nat.beq cl 10 then ab_i10 S (fun S' => ih y cuts false rest L S' G h cn sn k) else
    bif Nat.beq cl 11 then ab_i11 S (fun S' => ih y cuts false rest L S' G h cn sn k) else
    bif Nat.beq cl 12 then ab_i12 S (fun S' => ih y cuts false rest L S' G h cn sn k) else
    bif Nat.beq cl 13 then ab_i13 S (fun S' => ih y cuts false rest L S' G h cn sn k) else
    bif Nat.beq cl 14 then ab_i14 S (fun S' => ih y cuts false rest L S' G h cn sn k) else
    bif Nat.beq cl 15 then ab_i15 S (fun S' => ih y cuts false rest L S' G h cn sn k) else false)
  else
    bif Nat.beq cl 20 then ih y cuts false (ab_dr x1 (P y).1) L S G h cn sn k else
    bif Nat.beq cl 21 then ab_i21 x1 S G (fun S' t G' => ih y cuts false (bif t then ab_dr x2 (P y).1 else rest) L S' G' h cn sn k) else
    bif Nat.beq cl 22 then ab_i22 x1 S G (fun S' t G' => ih y cuts false (bif t then ab_dr x2 (P y).1 else rest) L S' G' h cn sn k) else
    bif Nat.beq cl 23 then ab_i23 x1 S G (fun S' t G' => ih y cuts false (bif t then ab_dr x2 (P y).1 else ab_dr 1 rest) L S' G' h cn sn k) else
    bif Nat.beq cl 24 then ab_i24 A x1 X S G (fun S' t G' => ih y cuts false (ab_dr t (P y).1) L S' G' h cn sn k) else
    bif Nat.beq cl 25 then ab_i25 A S G (fun S' => ih y cuts false (ab_dr x1 (P y).1) L S' G h cn sn k) else false
noncomputable def ab_b2 (P : Nat → ab_M) (NF : Nat → Nat) (ih : ab_X) (y : Nat) (cuts : List Nat) (pos : List ab_E) (pc cl : Nat) (A : Int) (x1 x2 : Nat) (X : List Nat) (rest : List ab_E) (L : ab_L) (S : List ab_V) (G : ab_G) (h : ab_H) (cn sn : Nat) (k : ab_K) : Bool :=
  bif Nat.ble cl 34 then
    (bif Nat.beq cl 30 then ab_i30 BS x1 x2 A.toNat S h (fun S' => ih y cuts false rest L S' G h cn sn k) else
    bif Nat.beq cl 31 then ab_i31 BS x1 x2 A.toNat S G h (fun S' h' => ih y cuts false rest L S' G h' cn sn k) else
    bif Nat.beq cl 32 then (bif ab_rm P y (cn + 1) (sn + NF x1) then ih y cuts false rest L (.inr (.inl h.1) :: S) G (ab_new h (.inl (x1, []))) (cn + 1) (sn + NF x1) k else false) else
    bif Nat.beq cl 33 then (match (P y).2.2.2 with
      | [] => bif (bif ab_rm P y (cn + 1) (sn + 6) then Nat.ble S.length 20 else false) then k 1 x1 [] L G (ab_new h (.inr (9, 0, none))) (cn + 1) (sn + 6) else false
      | _ :: _ => false) else
    bif Nat.beq cl 34 then ab_i34 x1 S G h (fun S' h' n => bif ab_rm P y (cn + 1) (sn + n) then ih y cuts false rest L S' G h' (cn + 1) (sn + n) k else false) else false)
  else bif Nat.ble cl 39 then
    (bif Nat.beq cl 38 then ab_i38 BS x1 S G h (fun S' G' => ih y cuts false rest L S' G' h cn sn k) (fun G' => ih y cuts true pos L S G' h cn sn k) else
    bif Nat.beq cl 39 then ab_i39 BS x1 S G h (fun S' h' => ih y cuts false rest L S' G h' cn sn k) else
    bif Nat.beq cl 35 then ab_i35 x1 S h (fun S' h' a b => bif ab_rm P y (cn + a) (sn + b) then ih y cuts false rest L S' G h' (cn + a) (sn + b) k else false) else
    bif Nat.beq cl 36 then ab_i34 4 S G h (fun S' h' n => bif ab_rm P y (cn + 1) (sn + n) then ih y cuts false rest L S' G h' (cn + 1) (sn + n) k else false) else
    bif Nat.beq cl 37 then ab_i37 BS S h (fun S' => ih y cuts false rest L S' G h cn sn k) else false)
  else
    bif Nat.beq cl 40 then ab_call BS P ih y cuts pc x1 x2 A.toNat (match X with
      | [] => 0
      | mx :: _ => mx) rest L S G h cn sn k else
    bif Nat.beq cl 51 then (match S with
      | [v] => bif ab_tag x1 v then k 0 pc [ab_nmV G v] L G h cn sn else false
      | _ => false) else
    bif Nat.beq cl 52 then (match S with
      | [v] => bif ab_fit G 2 v then k 0 pc [ab_nmV G v] L G h cn sn else false
      | _ => false) else
    bif Nat.beq cl 50 then (match S with
      | [] => k 0 pc [] L G h cn sn
      | _ :: _ => false) else
    bif Nat.beq cl 41 then (match S with
      | .inr (.inl _) :: S' => bif Nat.ble S'.length 20 then ih y cuts false rest L S' G h cn sn k else false
      | _ => false) else
    bif Nat.beq cl 42 then ab_i42 BS x1 S G h (fun S' h' => bif ab_rm P y cn sn then ih y cuts false rest L S' G h' cn sn k else false) else
    bif Nat.beq cl 43 then ab_i43 BS S G h (fun S' h' => ih y cuts false rest L S' G h' cn sn k) else
    bif Nat.beq cl 44 then ab_i44 BS S h (fun S' h' => ih y cuts false rest L S' G h' cn sn k) else false
noncomputable def ab_step (P : Nat → ab_M) (NF : Nat → Nat) (ih : ab_X) (y : Nat) (cuts : List Nat) (pos : List ab_E) (pc cl : Nat) (A : Int) (x1 x2 : Nat) (X : List Nat) (rest : List ab_E) (L : ab_L) (S : List ab_V) (G : ab_G) (h : ab_H) (cn sn : Nat) (k : ab_K) : Bool :=
  bif Nat.ble cl 29 then ab_b1 P ih y cuts pos pc cl A x1 x2 X rest L S G h cn sn k else ab_b2 BS P NF ih y cuts pos pc cl A x1 x2 X rest L S G h cn sn k
/-! A LOOP, by a hint: which locals may be what, which rows and fields are forgotten, which locals are dropped, which local moves, and whether up. The body is walked once from what is so told; where it comes back, it must be an instance of it, the local farther. -/
/-- locals with their bounds (0: the number; 1, 2: the least, greatest that a local may be at the entry, and the number more); rows forgotten; fields forgotten; locals dropped; the local that moves, 0 down 1 up; where the loop is left: pc, place -/
noncomputable def ab_bd (L : ab_L) (G : ab_G) (q : Nat × Nat × Int) : Int :=
  bif Nat.beq q.1 0 then q.2.2 else match ab_lk L q.2.1 with
    | some (.inl (.inl s)) => bif Nat.beq q.1 1 then (ab_ivS G s).1 + q.2.2 else (ab_ivS G s).2 + q.2.2
    | _ => 0
abbrev ab_B : Type := List (Nat × (Nat × Nat × Int) × (Nat × Nat × Int)) × List Nat × List (Nat × Nat × Nat × Int × Int) × List Nat × Nat × Nat × List (Nat × Nat)
/-- a new variable for a value of the same kind -/
noncomputable def ab_kn (i : Nat) : ab_V → ab_V
  | .inl (.inl _) => .inl (.inl (.inr i))
  | .inl (.inr _) => .inl (.inr (.inr i))
  | .inr v => .inr v
noncomputable def ab_gl (L0 : ab_L) (G0 : ab_G) (bs : List (Nat × (Nat × Nat × Int) × (Nat × Nat × Int))) (f : ab_L → ab_G → Bool) : ab_L → ab_G → Bool :=
  List.rec (fun L G => f L G) (fun b _ r L G => match ab_lk L b.1 with
    | some v => r (ab_sto b.1 (ab_kn G.1 v) L) (G.1 + 1, (G.1, (ab_bd L0 G0 b.2.1, ab_bd L0 G0 b.2.2)) :: G.2.1, G.2.2)
    | none => r L G) bs
noncomputable def ab_gc (h : ab_H) (cs : List Nat) : ab_H := List.rec h (fun c _ r => match ab_cl BS h c with
    | some (.inr (ty, n, _)) => ab_put r c (.inr (ty, n, none))
    | _ => r) cs
noncomputable def ab_gf (fs : List (Nat × Nat × Nat × Int × Int)) (f : ab_H → ab_G → Bool) : ab_H → ab_G → Bool :=
  List.rec (fun h G => f h G) (fun b _ r h G => match ab_cl BS h b.1 with
    | some (.inl (ci, fs)) => r (ab_put h b.1 (.inl (ci, (b.2.1, ab_kn G.1 (ab_def b.2.2.1)) :: fs))) (G.1 + 1, (G.1, (b.2.2.2.1, b.2.2.2.2)) :: G.2.1, G.2.2)
    | _ => r h G) fs
noncomputable def ab_gd (ds : List Nat) (L : ab_L) : ab_L := List.rec [] (fun q _ r => bif ds.elem q.1 then r else q :: r) L
/-- what the pattern's free variables (from n on) stand for: by the locals, by the fields forgotten -/
noncomputable def ab_bv (n N : Nat) (G : ab_G) (v w : ab_V) (r : List (Nat × ab_S)) : List (Nat × ab_S) := match v, w with
  | .inl (.inl (.inr i)), .inl (.inl s) => bif (bif Nat.ble n i then Nat.ble (i + 1) N else false) then (i, ab_nm G s) :: r else r
  | .inl (.inr (.inr i)), .inl (.inr s) => bif (bif Nat.ble n i then Nat.ble (i + 1) N else false) then (i, ab_nm G s) :: r else r
  | _, _ => r
noncomputable def ab_bl (n N : Nat) (G : ab_G) (Lg L : ab_L) (r : List (Nat × ab_S)) : List (Nat × ab_S) := List.rec r (fun q _ r => match ab_lk L q.1 with
    | some w => ab_bv n N G q.2 w r
    | none => r) Lg
noncomputable def ab_bh (n N : Nat) (G : ab_G) (hg h : ab_H) (fs : List (Nat × Nat × Nat × Int × Int)) : List (Nat × ab_S) := List.rec [] (fun b _ r => match ab_cl BS hg b.1, ab_cl BS h b.1 with
    | some (.inl (_, fg)), some (.inl (_, fa)) => (match ab_lk fg b.2.1, ab_lk fa b.2.1 with
      | some v, some w => ab_bv n N G v w r
      | _, _ => r)
    | _, _ => r) fs
noncomputable def ab_os (n : Nat) : ab_S → Bool
  | .inl _ => true
  | .inr j => Nat.ble (j + 1) n
/-- each stands for something within its bounds -/
noncomputable def ab_bk (σ : List (Nat × ab_S)) (n : Nat) (Gg G : ab_G) : Bool := Nat.rec true (fun j r => bif (match ab_lk σ (n + j) with
    | some s => bif (bif ab_os G.1 s then ab_le (ab_ivI Gg (n + j)).1 (ab_ivS G s).1 else false) then ab_le (ab_ivS G s).2 (ab_ivI Gg (n + j)).2 else false
    | none => false) then r else false) (Gg.1 - n)
noncomputable def ab_ms1 (G : ab_G) (a s : ab_S) : Bool := bif ab_seq a s then true else ab_seq (ab_nm G a) (ab_nm G s)
noncomputable def ab_ms (σ : List (Nat × ab_S)) (n : Nat) (G : ab_G) : ab_S → ab_S → Bool
  | .inr i, s => bif Nat.ble n i then (match ab_lk σ i with
    | some t => ab_ms1 G t s
    | none => false) else ab_ms1 G (.inr i) s
  | .inl c, s => ab_ms1 G (.inl c) s
noncomputable def ab_mv (σ : List (Nat × ab_S)) (n : Nat) (G : ab_G) : ab_V → ab_V → Bool
  | .inl (.inl a), .inl (.inl b) => ab_ms σ n G a b
  | .inl (.inr a), .inl (.inr b) => ab_ms σ n G a b
  | .inr (.inl a), .inr (.inl b) => Nat.beq a b
  | .inr (.inr a), .inr (.inr b) => Nat.beq a b
  | _, _ => false
noncomputable def ab_ml (σ : List (Nat × ab_S)) (n : Nat) (G : ab_G) (Lg L : ab_L) : Bool := List.rec true (fun q _ r => match ab_lk L q.1 with
    | some v => bif ab_mv σ n G q.2 v then r else false
    | none => false) Lg
/-- the same keys, each held by the pattern's -/
noncomputable def ab_mo (σ : List (Nat × ab_S)) (n : Nat) (G : ab_G) (fg fs : ab_L) : Bool := ab_all (fun q => match ab_lk fg q.1, ab_lk fs q.1 with
    | some a, some b => ab_mv σ n G a b
    | _, _ => false) (fg ++ fs)
noncomputable def ab_leq (σ : List (Nat × ab_S)) (n : Nat) (G : ab_G) (l m : ab_L) : Bool := List.rec (motive := fun _ => ab_L → Bool) (fun m => match m with
    | [] => true
    | _ :: _ => false) (fun q _ r m => match m with
    | [] => false
    | p :: m' => bif (bif Nat.beq q.1 p.1 then ab_mv σ n G q.2 p.2 else false) then r m' else false) l m
noncomputable def ab_mc (σ : List (Nat × ab_S)) (n : Nat) (G : ab_G) : ab_C → ab_C → Bool
  | .inl (ci, fs), .inl (cj, gs) => bif Nat.beq ci cj then ab_mo σ n G fs gs else false
  | .inr (ty, m, none), .inr (tz, l, _) => bif Nat.beq ty tz then Nat.beq m l else false
  | .inr (ty, m, some (d, a)), .inr (tz, l, some (e, b)) => bif Nat.beq ty tz then (bif Nat.beq m l then (bif ab_mv σ n G d e then ab_leq σ n G a b else false) else false) else false
  | _, _ => false
/-- the cells of two heaps -/
noncomputable def ab_mh (σ : List (Nat × ab_S)) (n : Nat) (G : ab_G) (hg h : ab_H) : Bool :=
  bif Nat.beq hg.1 h.1 then ab_all (fun q => match ab_cl BS hg q.1, ab_cl BS h q.1 with
    | some a, some b => ab_mc σ n G a b
    | _, _ => false) (hg.2 ++ h.2) else false
noncomputable def ab_mt2 (n : Nat) (Gg G : ab_G) (Lg L : ab_L) (hg h : ab_H) (σ : List (Nat × ab_S)) : Bool :=
  bif ab_bk σ n Gg G then (bif ab_ml σ n G Lg L then ab_mh BS σ n G hg h else false) else false
noncomputable def ab_mt (fs : List (Nat × Nat × Nat × Int × Int)) (n : Nat) (Gg G : ab_G) (Lg L : ab_L) (hg h : ab_H) : Bool :=
  ab_mt2 BS n Gg G Lg L hg h (ab_bl n Gg.1 G Lg L (ab_bh BS n Gg.1 G hg h fs))
noncomputable def ab_mvd (G : ab_G) (up i m : Nat) (l : List ab_D) : Bool := List.rec false (fun d _ q => bif Nat.beq d.2.2.2 m then (match d.2.1, d.2.2.1 with
    | .inr j, .inl c => bif (bif Nat.beq d.1 0 then Nat.beq j i else false) then (bif Nat.beq up 1 then ab_le 1 c else ab_le c (-1)) else q
    | _, .inr j => bif (bif (bif Nat.beq d.1 4 then Nat.beq j i else false) then Nat.beq up 0 else false) then ab_le 1 (ab_ivI G i).1 else q
    | _, _ => q) else q) l
/-- the local that moves: its value is the pattern's variable and a number more (less), or a rest by it -/
noncomputable def ab_rk2 (G : ab_G) (up i : Nat) (s : ab_S) : Bool := bif (bif Nat.beq up 1 then ab_le ((ab_ivI G i).2 + 1) (ab_ivS G s).1 else ab_le ((ab_ivS G s).2 + 1) (ab_ivI G i).1) then true else match s with
  | .inr m => ab_mvd G up i m G.2.2.2
  | .inl _ => false
noncomputable def ab_rk (r up : Nat) (Lg L : ab_L) (G : ab_G) : Bool :=
  match ab_lk Lg r, ab_lk L r with
  | some (.inl (.inl (.inr i))), some (.inl (.inl s)) => ab_rk2 G up i s
  | some (.inl (.inr (.inr i))), some (.inl (.inr s)) => ab_rk2 G up i s
  | _, _ => false
noncomputable def ab_exs (l : List (Nat × Nat)) (cuts : List Nat) : List Nat := List.rec cuts (fun q _ r => q.1 :: r) l
/-- what leaves a loop: by one of its places, or farther -/
noncomputable def ab_lx (P : Nat → ab_M) (ih : ab_X) (y : Nat) (cuts : List Nat) (ex : List (Nat × Nat)) (k : ab_K) : ab_K := fun kd e S2 L2 G2 h2 cn2 sn2 =>
  bif Nat.beq kd 2 then (match ab_lk ex e with
    | some x => (match ab_dr x (P y).1 with
      | [] => false
      | e0 :: r0 => bif Nat.beq e0.1 e then ih y cuts false (e0 :: r0) L2 S2 G2 h2 cn2 sn2 k else false)
    | none => k kd e S2 L2 G2 h2 cn2 sn2)
  else k kd e S2 L2 G2 h2 cn2 sn2
noncomputable def ab_loop (P : Nat → ab_M) (ih : ab_X) (y : Nat) (cuts : List Nat) (pos : List ab_E) (pc : Nat) (B : ab_B) (L : ab_L) (G : ab_G) (h : ab_H) (cn sn : Nat) (k : ab_K) (no : Bool) : Bool :=
  ab_gl L G B.1 (fun L1 G1 => ab_gf BS B.2.2.1 (fun hg Gg =>
    bif ab_mt BS B.2.2.1 G.1 Gg G (ab_gd B.2.2.2.1 L1) L hg h then
      ih y (pc :: ab_exs B.2.2.2.2.2.2 cuts) true pos (ab_gd B.2.2.2.1 L1) [] Gg hg cn sn (fun kd e S2 L2 G2 h2 cn2 sn2 =>
        bif (bif Nat.beq kd 2 then Nat.beq e pc else false) then
          (bif (bif S2.isEmpty then (bif Nat.beq cn2 cn then Nat.beq sn2 sn else false) else false) then
            (bif ab_mt BS B.2.2.1 G.1 Gg G2 (ab_gd B.2.2.2.1 L1) L2 hg h2 then ab_rk B.2.2.2.2.1 B.2.2.2.2.2.1 (ab_gd B.2.2.2.1 L1) L2 G2 else false)
          else false)
        else ab_lx P ih y cuts B.2.2.2.2.2.2 k kd e S2 L2 G2 h2 cn2 sn2)
    else no) (ab_gc BS h B.2.1) G1) L G
noncomputable def ab_body (P : Nat → ab_M) (NF : Nat → Nat) (HS : Nat → Nat → Option ab_B) (ih : ab_X) : ab_X := fun y cuts fst pos L S G h cn sn k =>
  match pos with
  | [] => false
  | (pc, fl, cl, A, x1, x2, X) :: rest =>
    bif (bif fst then true else Nat.beq fl 0) then ab_step BS P NF ih y cuts pos pc cl A x1 x2 X rest L S G h cn sn k else
    bif cuts.elem pc then k 2 pc S L G h cn sn else
    match HS y pc, S with
    | some B, [] => ab_loop BS P ih y cuts pos pc B L G h cn sn k (ab_step BS P NF ih y cuts pos pc cl A x1 x2 X rest L S G h cn sn k)
    | _, _ => ab_step BS P NF ih y cuts pos pc cl A x1 x2 X rest L S G h cn sn k
noncomputable def ab_run (P : Nat → ab_M) (NF : Nat → Nat) (HS : Nat → Nat → Option ab_B) (n : Nat) : ab_X := Nat.rec (fun _ _ _ _ _ _ _ _ _ _ _ => false) (fun _ ih => ab_body BS P NF HS ih) n
end AB
