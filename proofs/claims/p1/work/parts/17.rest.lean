/-! STEPS that are still owed: a throw, rows of rows made at once, a fill, a copy. -/
def ab_E33 (Z : ab_ZT) (y pc x1 : Nat) (ins : Instr) (len : Nat) : Prop := len = 3 ∧ ∃ (names : List String) (ik ic : Nat), ins = .new ik ∧ decode (ab_zCB Z y) (pc + 3) = .ok (.dup, 1) ∧ decode (ab_zCB Z y) (pc + 4) = .ok (.invokespecial ic, 3) ∧ decode (ab_zCB Z y) (pc + 7) = .ok (.athrow, 1) ∧
  Bundle.fit (ab_zEN Z x1) = true ∧ (∀ n ∈ names, Bundle.fit n = true) ∧ (∀ w ∈ Cond.classLink (ab_zY Z y).cls ik (ab_zEN Z x1) :: Cond.initialized (ab_zEN Z x1) :: vx_at0 (ab_zY Z y).cls ic (ab_zEN Z x1) names, vx_ot w = true ∧ (w ∈ ab_zTW Z ∨ w ∈ ab_zNW Z)) ∧
  names.length + 3 < ab_zFR Z y ∧ 40 + (13 * (names.length + 1) + 42) ≤ ab_zLO Z y
def ab_E35 (Z : ab_ZT) (y x1 : Nat) (ins : Instr) (len : Nat) : Prop := len = 4 ∧ (x1 = 3 ∨ x1 = 4) ∧ ∃ i, ins = .multianewarray i 2 ∧ Cond.classLink (ab_zY Z y).cls i ("[" ++ (FieldType.array (ab_et (x1 - 3))).toString) ∈ ab_zTW Z ∧ Cond.arrayClass (ab_et (x1 - 3)) ∈ ab_zTW Z
/-- a call of a row's filling -/
def ab_fillN (t : Nat) : MethodName := match t with
  | 0 => ⟨"java/util/Arrays", "fill", "([II)V"⟩
  | _ => ⟨"java/util/Arrays", "fill", "([JJ)V"⟩
def ab_E42 (Z : ab_ZT) (y x1 : Nat) (ins : Instr) (len : Nat) : Prop := len = 3 ∧ x1 ≤ 1 ∧ ∃ i, ins = .invokestatic i ∧ Cond.methodLink (ab_zY Z y).cls i (ab_fillN x1) ∈ ab_zTW Z
def ab_E43 (Z : ab_ZT) (y x1 : Nat) (ins : Instr) (len : Nat) : Prop := len = 3 ∧ x1 ≤ 1 ∧ ∃ i, ins = .invokestatic i
section S5
variable {Z : ab_ZT} {U : ab_UT} {F : ab_X} {y : Nat} {X : ab_XT} {ρ : Nat → Int} {cuts : List Nat} {pc : Nat} {A : Int} {x1 x2 : Nat} {Xs : List Nat} {pos rest : List ab_E} {L : ab_L} {S : List ab_V} {G : ab_G} {h : ab_H} {cn sn : Nat} {k : ab_K} {ins : Instr} {len : Nat}
theorem ab_st33 (hGd : ab_Gd Z) (hc : ab_Cx Z U y X) (hs : ab_Sat ρ G) (hk : ab_Hk Z U y X G.1 ρ k) (hd : decode (ab_zCB Z y) pc = .ok (ins, len)) (hE : ab_E33 Z y pc x1 ins len)
    (hx : (match (ab_zP Z y).2.2.2 with
      | [] => bif (bif ab_rm (ab_zP Z) y (cn + 1) (sn + 6) then Nat.ble S.length 20 else false) then k 1 x1 [] L G (ab_new h (.inr (9, 0, none))) (cn + 1) (sn + 6) else false
      | _ :: _ => false) = true) : ab_Go Z U y X ρ G.1 pc S L h cn sn := by sorry
theorem ab_st35 (hGd : ab_Gd Z) (hih : ab_Ok Z U F) (hc : ab_Cx Z U y X) (hs : ab_Sat ρ G) (hk : ab_Hk Z U y X G.1 ρ k) (hd : decode (ab_zCB Z y) pc = .ok (ins, len)) (hr : ∃ i, rest = ab_dr i (ab_zP Z y).1) (hn : ∀ e r, rest = e :: r → e.1 = pc + len) (hE : ab_E35 Z y x1 ins len)
    (hx : ab_i35 x1 S h (fun S' h' a b => bif ab_rm (ab_zP Z) y (cn + a) (sn + b) then F y cuts false rest L S' G h' (cn + a) (sn + b) k else false) = true) : ab_Go Z U y X ρ G.1 pc S L h cn sn := by sorry
theorem ab_st42 (hGd : ab_Gd Z) (hih : ab_Ok Z U F) (hc : ab_Cx Z U y X) (hs : ab_Sat ρ G) (hk : ab_Hk Z U y X G.1 ρ k) (hd : decode (ab_zCB Z y) pc = .ok (ins, len)) (hr : ∃ i, rest = ab_dr i (ab_zP Z y).1) (hn : ∀ e r, rest = e :: r → e.1 = pc + len) (hE : ab_E42 Z y x1 ins len)
    (hx : ab_i42 (ab_zBS Z) x1 S G h (fun S' h' => F y cuts false rest L S' G h' cn sn k) = true) : ab_Go Z U y X ρ G.1 pc S L h cn sn := by sorry
theorem ab_st43 (hGd : ab_Gd Z) (hih : ab_Ok Z U F) (hc : ab_Cx Z U y X) (hs : ab_Sat ρ G) (hk : ab_Hk Z U y X G.1 ρ k) (hd : decode (ab_zCB Z y) pc = .ok (ins, len)) (hr : ∃ i, rest = ab_dr i (ab_zP Z y).1) (hn : ∀ e r, rest = e :: r → e.1 = pc + len) (hE : ab_E43 Z y x1 ins len)
    (hx : ab_i43 (ab_zBS Z) x1 S G h (fun S' h' => F y cuts false rest L S' G h' cn sn k) = true) : ab_Go Z U y X ρ G.1 pc S L h cn sn := by sorry
end S5
