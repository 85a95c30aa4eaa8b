/-! STEPS that are still owed: a throw, rows of rows made at once, a fill, a copy. -/
def ab_E33 (Z : ab_ZT) (y pc x1 : Nat) (ins : Instr) (len : Nat) : Prop := len = 3 ∧ ∃ (names : List String) (ik ic : Nat), ins = .new ik ∧ decode (ab_zCB Z y) (pc + 3) = .ok (.dup, 1) ∧ decode (ab_zCB Z y) (pc + 4) = .ok (.invokespecial ic, 3) ∧ decode (ab_zCB Z y) (pc + 7) = .ok (.athrow, 1) ∧
  Bundle.fit (ab_zEN Z x1) = true ∧ (∀ n ∈ names, Bundle.fit n = true) ∧ (∀ w ∈ Cond.classLink (ab_zY Z y).cls ik (ab_zEN Z x1) :: Cond.initialized (ab_zEN Z x1) :: vx_at0 (ab_zY Z y).cls ic (ab_zEN Z x1) names, vx_ot w = true ∧ (w ∈ ab_zTW Z ∨ w ∈ ab_zNW Z)) ∧
  names.length + 3 < ab_zFR Z y ∧ 40 + (13 * (names.length + 1) + 42) ≤ ab_zLO Z y
def ab_E35 (Z : ab_ZT) (y x1 : Nat) (ins : Instr) (len : Nat) : Prop := len = 4 ∧ (x1 = 3 ∨ x1 = 4) ∧ ∃ i, ins = .multianewarray i 2 ∧ Cond.classLink (ab_zY Z y).cls i ("[" ++ (FieldType.array (ab_et (x1 - 3))).toString) ∈ ab_zTW Z ∧ Cond.arrayClass (ab_et (x1 - 3)) ∈ ab_zTW Z
/-- a call of a row's filling -/
def ab_fillN (t : Nat) : MethodName := match t with
  | 0 => ⟨"java/util/Arrays", "fill", "([II)V"⟩
  | _ => ⟨"java/util/Arrays", "fill", "([JJ)V"⟩
def ab_E42 (Z : ab_ZT) (y x1 : Nat) (ins : Instr) (len : Nat) : Prop := len = 3 ∧ x1 ≤ 1 ∧ ∃ i, ins = .invokestatic i ∧ Cond.methodLink (ab_zY Z y).cls i (ab_fillN x1) ∈ ab_zTW Z
def ab_copyN : MethodName := ⟨"java/lang/System", "arraycopy", "(Ljava/lang/Object;ILjava/lang/Object;II)V"⟩
def ab_E43 (Z : ab_ZT) (y : Nat) (ins : Instr) (len : Nat) : Prop := len = 3 ∧ ∃ i, ins = .invokestatic i ∧ Cond.methodLink (ab_zY Z y).cls i ab_copyN ∈ ab_zTW Z
section S5
variable {Z : ab_ZT} {U : ab_UT} {F : ab_X} {y : Nat} {X : ab_XT} {ρ : Nat → Int} {cuts : List Nat} {pc : Nat} {A : Int} {x1 x2 : Nat} {Xs : List Nat} {pos rest : List ab_E} {L : ab_L} {S : List ab_V} {G : ab_G} {h : ab_H} {cn sn : Nat} {k : ab_K} {ins : Instr} {len : Nat}
theorem ab_st33 (hGd : ab_Gd Z) (hc : ab_Cx Z U y X) (hs : ab_Sat ρ G) (hk : ab_Hk Z U y X G.1 ρ k) (hd : decode (ab_zCB Z y) pc = .ok (ins, len)) (hE : ab_E33 Z y pc x1 ins len)
    (hx : (match (ab_zP Z y).2.2.2 with
      | [] => bif (bif ab_rm (ab_zP Z) y (cn + 1) (sn + 6) then Nat.ble S.length 20 else false) then k 1 x1 [] L G (ab_new h (.inr (9, 0, none))) (cn + 1) (sn + 6) else false
      | _ :: _ => false) = true) : ab_Go Z U y X ρ G.1 pc S L h cn sn := by
  obtain ⟨rfl, names, ik, ic, rfl, d3, d4, d7, f1, f2, hw, f3, f4⟩ := hE
  split at hx
  · rename_i hnil
    obtain ⟨q1, q2⟩ := ab_an hx
    obtain ⟨q3, q4⟩ := ab_an q1
    obtain ⟨r1, r2⟩ := ab_rm_ok hc q3
    intro H ls st locs a1 a2 a3 a4
    obtain ⟨lv, hlv, hlv2⟩ := a2
    have hwords := a3.words
    have hlen := ab_ble q4
    have hR := hc.2.2.2.2.2.2.2.2.2.2.1
    have ok : ∀ w ∈ Cond.classLink (ab_zY Z y).cls ik (ab_zEN Z x1) :: Cond.initialized (ab_zEN Z x1) :: vx_at0 (ab_zY Z y).cls ic (ab_zEN Z x1) names, w.before (ab_xA X) (ab_xs X) = true := fun w h => by
      rcases (hw w h).2 with h2 | h2
      · exact hc.2.2.2.2.2.2.2.1 _ h2
      · exact va_Nw.use (hGd.2.2.1 _ h2) (hc.2.2.2.2.2.2.2.2.1.2.1 _ h2)
    refine ab_make0 hc.1 hc.2.1 hc.2.2.2.2.2.2.2.2.2.1 hc.2.2.2.1 f1 f2 (ok _ List.mem_cons_self) (ok _ (List.mem_cons_of_mem _ List.mem_cons_self)) (fun w h => ok w (List.mem_cons_of_mem _ (List.mem_cons_of_mem _ h))) (fun w h => (hw w h).1) hc.2.2.2.2.2.2.2.2.1.2.2.2.2.1 hc.2.2.2.2.2.2.2.2.1.2.2.2.2.2.1 a4 (by rw [hc.2.2.1]; exact hlv.1) hd d3 d4 (by rw [hR.1]; exact f3) (by rw [hR.2.1]; omega) r1 r2 (fun H1 ce g1 g2 g3 g4 g5 => ?_)
    refine vx_athrow hc.1 hc.2.1 d7 ?_
    exact hk 1 x1 [] L G _ _ _ ρ q2 (ab_Ext.rf _ _) hs hnil (pc + 7) H1 ls st locs H.size ce (a1.new hc.2.2.2.2.2.2.2.2.2.2.2.1 (Or.inl ⟨rfl, ce, g1⟩) g4 g5) g1 g2 g3 (ab_vS_new a4 g4 g5)
  · cases hx
theorem ab_st35 (hGd : ab_Gd Z) (hih : ab_Ok Z U F) (hc : ab_Cx Z U y X) (hs : ab_Sat ρ G) (hk : ab_Hk Z U y X G.1 ρ k) (hd : decode (ab_zCB Z y) pc = .ok (ins, len)) (hr : ∃ i, rest = ab_dr i (ab_zP Z y).1) (hn : ∀ e r, rest = e :: r → e.1 = pc + len) (hE : ab_E35 Z y x1 ins len)
    (hx : ab_i35 x1 S h (fun S' h' a b => bif ab_rm (ab_zP Z) y (cn + a) (sn + b) then F y cuts false rest L S' G h' (cn + a) (sn + b) k else false) = true) : ab_Go Z U y X ρ G.1 pc S L h cn sn := by sorry
theorem ab_st42 (hGd : ab_Gd Z) (hih : ab_Ok Z U F) (hc : ab_Cx Z U y X) (hs : ab_Sat ρ G) (hk : ab_Hk Z U y X G.1 ρ k) (hd : decode (ab_zCB Z y) pc = .ok (ins, len)) (hr : ∃ i, rest = ab_dr i (ab_zP Z y).1) (hn : ∀ e r, rest = e :: r → e.1 = pc + len) (hE : ab_E42 Z y x1 ins len)
    (hx : ab_i42 (ab_zBS Z) x1 S G h (fun S' h' => F y cuts false rest L S' G h' cn sn k) = true) : ab_Go Z U y X ρ G.1 pc S L h cn sn := by sorry
theorem ab_st43 (hGd : ab_Gd Z) (hih : ab_Ok Z U F) (hc : ab_Cx Z U y X) (hs : ab_Sat ρ G) (hk : ab_Hk Z U y X G.1 ρ k) (hd : decode (ab_zCB Z y) pc = .ok (ins, len)) (hr : ∃ i, rest = ab_dr i (ab_zP Z y).1) (hn : ∀ e r, rest = e :: r → e.1 = pc + len) (hE : ab_E43 Z y ins len)
    (hx : ab_i43 (ab_zBS Z) S G h (fun S' h' => F y cuts false rest L S' G h' cn sn k) = true) : ab_Go Z U y X ρ G.1 pc S L h cn sn := by sorry
end S5
