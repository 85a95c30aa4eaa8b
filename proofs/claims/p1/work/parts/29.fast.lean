/-! THE SAME WALKER, QUICKER: what a row does is looked up by the row alone (the kernel keeps it), then applied. -/
abbrev ab_hT : Type := ab_X → Nat → List Nat → List ab_E → Nat → List ab_E → ab_L → List ab_V → ab_G → ab_H → Nat → Nat → ab_K → Bool
section FA
variable (BS : Nat → Option ab_C) (P : Nat → ab_M) (NF : Nat → Nat)
noncomputable def abhx3 (x1 x2 : Nat) : ab_hT := fun ih y cuts _ _ rest L S G h cn sn k => ab_i3 x1 x2 L (fun v => ih y cuts false rest L (v :: S) G h cn sn k)
noncomputable def abhx0 (A : Int) : ab_hT := fun ih y cuts _ _ rest L S G h cn sn k => ih y cuts false rest L (.inl (.inl (.inl A)) :: S) G h cn sn k
noncomputable def abhx4 (x1 x2 : Nat) : ab_hT := fun ih y cuts _ _ rest L S G h cn sn k => match S with
  | v :: S' => bif ab_tag x1 v then ih y cuts false rest (ab_sto x2 v L) S' G h cn sn k else false
  | [] => false
noncomputable def abhx1 (A : Int) : ab_hT := fun ih y cuts _ _ rest L S G h cn sn k => ih y cuts false rest L (.inl (.inr (.inl A)) :: S) G h cn sn k
noncomputable def abhx5 (x1 : Nat) (A : Int) : ab_hT := fun ih y cuts _ _ rest L S G h cn sn k => ab_i5 x1 A L G (fun v G' => ih y cuts false rest (ab_sto x1 v L) S G' h cn sn k)
noncomputable def abhx2 : ab_hT := fun ih y cuts _ _ rest L S G h cn sn k => ih y cuts false rest L (.inr (.inr 3) :: S) G h cn sn k
noncomputable def abhx6 (x1 x2 : Nat) : ab_hT := fun ih y cuts _ _ rest L S G h cn sn k => ab_i6 x1 x2 S G (fun S' G' => ih y cuts false rest L S' G' h cn sn k)
noncomputable def abhx7 (x1 : Nat) : ab_hT := fun ih y cuts _ _ rest L S G h cn sn k => ab_i7 S G (fun S' G' => ih y cuts false rest L S' G' h cn sn k) x1
noncomputable def abhx8 : ab_hT := fun ih y cuts _ _ rest L S G h cn sn k => ab_i8 S (fun S' => ih y cuts false rest L S' G h cn sn k)
noncomputable def abhx9 : ab_hT := fun ih y cuts _ _ rest L S G h cn sn k => ab_i9 S G (fun S' G' => ih y cuts false rest L S' G' h cn sn k)
noncomputable def abhx10 : ab_hT := fun ih y cuts _ _ rest L S G h cn sn k => ab_i10 S (fun S' => ih y cuts false rest L S' G h cn sn k)
noncomputable def abhx11 : ab_hT := fun ih y cuts _ _ rest L S G h cn sn k => ab_i11 S (fun S' => ih y cuts false rest L S' G h cn sn k)
noncomputable def abhx12 : ab_hT := fun ih y cuts _ _ rest L S G h cn sn k => ab_i12 S (fun S' => ih y cuts false rest L S' G h cn sn k)
noncomputable def abhx13 : ab_hT := fun ih y cuts _ _ rest L S G h cn sn k => ab_i13 S (fun S' => ih y cuts false rest L S' G h cn sn k)
noncomputable def abhx14 : ab_hT := fun ih y cuts _ _ rest L S G h cn sn k => ab_i14 S (fun S' => ih y cuts false rest L S' G h cn sn k)
noncomputable def abhx15 : ab_hT := fun ih y cuts _ _ rest L S G h cn sn k => ab_i15 S (fun S' => ih y cuts false rest L S' G h cn sn k)
noncomputable def abhx20 (x1 : Nat) : ab_hT := fun ih y cuts _ _ _ L S G h cn sn k => ih y cuts false (ab_dr x1 (P y).1) L S G h cn sn k
noncomputable def abhx21 (x1 x2 : Nat) : ab_hT := fun ih y cuts _ _ rest L S G h cn sn k => ab_i21 x1 S G (fun S' t G' => ih y cuts false (bif t then ab_dr x2 (P y).1 else rest) L S' G' h cn sn k)
noncomputable def abhx22 (x1 x2 : Nat) : ab_hT := fun ih y cuts _ _ rest L S G h cn sn k => ab_i22 x1 S G (fun S' t G' => ih y cuts false (bif t then ab_dr x2 (P y).1 else rest) L S' G' h cn sn k)
noncomputable def abhx23 (x1 x2 : Nat) : ab_hT := fun ih y cuts _ _ rest L S G h cn sn k => ab_i23 x1 S G (fun S' t G' => ih y cuts false (bif t then ab_dr x2 (P y).1 else ab_dr 1 rest) L S' G' h cn sn k)
noncomputable def abhx24 (A : Int) (x1 : Nat) (X : List Nat) : ab_hT := fun ih y cuts _ _ _ L S G h cn sn k => ab_i24 A x1 X S G (fun S' t G' => ih y cuts false (ab_dr t (P y).1) L S' G' h cn sn k)
noncomputable def abhx25 (A : Int) (x1 : Nat) : ab_hT := fun ih y cuts _ _ _ L S G h cn sn k => ab_i25 A S G (fun S' => ih y cuts false (ab_dr x1 (P y).1) L S' G h cn sn k)
noncomputable def abhx30 (A : Int) (x1 x2 : Nat) : ab_hT := fun ih y cuts _ _ rest L S G h cn sn k => ab_i30 BS x1 x2 A.toNat S h (fun S' => ih y cuts false rest L S' G h cn sn k)
noncomputable def abhx31 (A : Int) (x1 x2 : Nat) : ab_hT := fun ih y cuts _ _ rest L S G h cn sn k => ab_i31 BS x1 x2 A.toNat S G h (fun S' h' => ih y cuts false rest L S' G h' cn sn k)
noncomputable def abhx32 (x1 : Nat) : ab_hT := fun ih y cuts _ _ rest L S G h cn sn k => bif ab_rm P y (cn + 1) (sn + NF x1) then ih y cuts false rest L (.inr (.inl h.1) :: S) G (ab_new h (.inl (x1, []))) (cn + 1) (sn + NF x1) k else false
noncomputable def abhx33 (x1 : Nat) : ab_hT := fun _ y _ _ _ _ L S G h cn sn k => match (P y).2.2.2 with
  | [] => bif (bif ab_rm P y (cn + 1) (sn + 6) then Nat.ble S.length 20 else false) then k 1 x1 [] L G (ab_new h (.inr (9, 0, none))) (cn + 1) (sn + 6) else false
  | _ :: _ => false
noncomputable def abhx34 (x1 : Nat) : ab_hT := fun ih y cuts _ _ rest L S G h cn sn k => ab_i34 x1 S G h (fun S' h' n => bif ab_rm P y (cn + 1) (sn + n) then ih y cuts false rest L S' G h' (cn + 1) (sn + n) k else false)
noncomputable def abhx38 (x1 : Nat) : ab_hT := fun ih y cuts pos _ rest L S G h cn sn k => ab_i38 BS x1 S G h (fun S' G' => ih y cuts false rest L S' G' h cn sn k) (fun G' => ih y cuts true pos L S G' h cn sn k)
noncomputable def abhx39 (x1 : Nat) : ab_hT := fun ih y cuts _ _ rest L S G h cn sn k => ab_i39 BS x1 S G h (fun S' h' => ih y cuts false rest L S' G h' cn sn k)
noncomputable def abhx35 (x1 : Nat) : ab_hT := fun ih y cuts _ _ rest L S G h cn sn k => ab_i35 x1 S h (fun S' h' a b => bif ab_rm P y (cn + a) (sn + b) then ih y cuts false rest L S' G h' (cn + a) (sn + b) k else false)
noncomputable def abhx36 : ab_hT := fun ih y cuts _ _ rest L S G h cn sn k => ab_i34 4 S G h (fun S' h' n => bif ab_rm P y (cn + 1) (sn + n) then ih y cuts false rest L S' G h' (cn + 1) (sn + n) k else false)
noncomputable def abhx37 : ab_hT := fun ih y cuts _ _ rest L S G h cn sn k => ab_i37 BS S h (fun S' => ih y cuts false rest L S' G h cn sn k)
noncomputable def abhx40 (A : Int) (x1 x2 : Nat) (X : List Nat) : ab_hT := fun ih y cuts _ pc rest L S G h cn sn k => ab_call BS P ih y cuts pc x1 x2 A.toNat (match X with
  | [] => 0
  | mx :: _ => mx) rest L S G h cn sn k
noncomputable def abhx51 (x1 : Nat) : ab_hT := fun _ _ _ _ pc _ L S G h cn sn k => match S with
  | [v] => bif ab_tag x1 v then k 0 pc [ab_nmV G v] L G h cn sn else false
  | _ => false
noncomputable def abhx52 : ab_hT := fun _ _ _ _ pc _ L S G h cn sn k => match S with
  | [v] => bif ab_fit G 2 v then k 0 pc [ab_nmV G v] L G h cn sn else false
  | _ => false
noncomputable def abhx50 : ab_hT := fun _ _ _ _ pc _ L S G h cn sn k => match S with
  | [] => k 0 pc [] L G h cn sn
  | _ :: _ => false
noncomputable def abhx41 : ab_hT := fun ih y cuts _ _ rest L S G h cn sn k => match S with
  | .inr (.inl _) :: S' => bif Nat.ble S'.length 20 then ih y cuts false rest L S' G h cn sn k else false
  | _ => false
noncomputable def abhx42 (x1 : Nat) : ab_hT := fun ih y cuts _ _ rest L S G h cn sn k => ab_i42 BS x1 S G h (fun S' h' => bif ab_rm P y cn sn then ih y cuts false rest L S' G h' cn sn k else false)
noncomputable def abhx43 : ab_hT := fun ih y cuts _ _ rest L S G h cn sn k => ab_i43 BS S G h (fun S' h' => ih y cuts false rest L S' G h' cn sn k)
noncomputable def abhx44 : ab_hT := fun ih y cuts _ _ rest L S G h cn sn k => ab_i44 BS S h (fun S' h' => ih y cuts false rest L S' G h' cn sn k)
/-- what a row does -/
noncomputable def ab_hd (q : Nat × Int × Nat × Nat × List Nat) : Option ab_hT :=
  bif Nat.ble q.1 29 then
    (bif Nat.ble q.1 5 then
      (bif Nat.beq q.1 3 then some (abhx3 q.2.2.1 q.2.2.2.1) else
      bif Nat.beq q.1 0 then some (abhx0 q.2.1) else
      bif Nat.beq q.1 4 then some (abhx4 q.2.2.1 q.2.2.2.1) else
      bif Nat.beq q.1 1 then some (abhx1 q.2.1) else
      bif Nat.beq q.1 5 then some (abhx5 q.2.2.1 q.2.1) else some abhx2)
    else bif Nat.ble q.1 15 then
      (bif Nat.beq q.1 6 then some (abhx6 q.2.2.1 q.2.2.2.1) else
      bif Nat.beq q.1 7 then some (abhx7 q.2.2.1) else
      bif Nat.beq q.1 8 then some abhx8 else
      bif Nat.beq q.1 9 then some abhx9 else
      bif Nat.beq q.1 10 then some abhx10 else
      bif Nat.beq q.1 11 then some abhx11 else
      bif Nat.beq q.1 12 then some abhx12 else
      bif Nat.beq q.1 13 then some abhx13 else
      bif Nat.beq q.1 14 then some abhx14 else
      bif Nat.beq q.1 15 then some abhx15 else none)
    else
      bif Nat.beq q.1 20 then some (abhx20 P q.2.2.1) else
      bif Nat.beq q.1 21 then some (abhx21 P q.2.2.1 q.2.2.2.1) else
      bif Nat.beq q.1 22 then some (abhx22 P q.2.2.1 q.2.2.2.1) else
      bif Nat.beq q.1 23 then some (abhx23 P q.2.2.1 q.2.2.2.1) else
      bif Nat.beq q.1 24 then some (abhx24 P q.2.1 q.2.2.1 q.2.2.2.2) else
      bif Nat.beq q.1 25 then some (abhx25 P q.2.1 q.2.2.1) else none)
  else
    (bif Nat.ble q.1 34 then
      (bif Nat.beq q.1 30 then some (abhx30 BS q.2.1 q.2.2.1 q.2.2.2.1) else
      bif Nat.beq q.1 31 then some (abhx31 BS q.2.1 q.2.2.1 q.2.2.2.1) else
      bif Nat.beq q.1 32 then some (abhx32 P NF q.2.2.1) else
      bif Nat.beq q.1 33 then some (abhx33 P q.2.2.1) else
      bif Nat.beq q.1 34 then some (abhx34 P q.2.2.1) else none)
    else bif Nat.ble q.1 39 then
      (bif Nat.beq q.1 38 then some (abhx38 BS q.2.2.1) else
      bif Nat.beq q.1 39 then some (abhx39 BS q.2.2.1) else
      bif Nat.beq q.1 35 then some (abhx35 P q.2.2.1) else
      bif Nat.beq q.1 36 then some (abhx36 P) else
      bif Nat.beq q.1 37 then some (abhx37 BS) else none)
    else
      bif Nat.beq q.1 40 then some (abhx40 BS P q.2.1 q.2.2.1 q.2.2.2.1 q.2.2.2.2) else
      bif Nat.beq q.1 51 then some (abhx51 q.2.2.1) else
      bif Nat.beq q.1 52 then some abhx52 else
      bif Nat.beq q.1 50 then some abhx50 else
      bif Nat.beq q.1 41 then some abhx41 else
      bif Nat.beq q.1 42 then some (abhx42 BS P q.2.2.1) else
      bif Nat.beq q.1 43 then some (abhx43 BS) else
      bif Nat.beq q.1 44 then some (abhx44 BS) else none)
noncomputable def ab_ap (o : Option ab_hT) : ab_hT := fun ih y cuts pos pc rest L S G h cn sn k => match o with
  | some f => f ih y cuts pos pc rest L S G h cn sn k
  | none => false
theorem ab_ap_if (c : Bool) (a b : Option ab_hT) (ih : ab_X) (y : Nat) (cuts : List Nat) (pos : List ab_E) (pc : Nat) (rest : List ab_E) (L : ab_L) (S : List ab_V) (G : ab_G) (h : ab_H) (cn sn : Nat) (k : ab_K) :
    ab_ap (bif c then a else b) ih y cuts pos pc rest L S G h cn sn k = bif c then ab_ap a ih y cuts pos pc rest L S G h cn sn k else ab_ap b ih y cuts pos pc rest L S G h cn sn k := by cases c <;> rfl
theorem ab_ap_eq (ih : ab_X) (y : Nat) (cuts : List Nat) (pos : List ab_E) (pc cl : Nat) (A : Int) (x1 x2 : Nat) (X : List Nat) (rest : List ab_E) (L : ab_L) (S : List ab_V) (G : ab_G) (h : ab_H) (cn sn : Nat) (k : ab_K) :
    ab_ap (ab_hd BS P NF (cl, A, x1, x2, X)) ih y cuts pos pc rest L S G h cn sn k = ab_step BS P NF ih y cuts pos pc cl A x1 x2 X rest L S G h cn sn k := by
  unfold ab_hd
  simp only [ab_ap_if]
  rfl
noncomputable def ab_bdF (HS : Nat → Nat → Option ab_B) (ih : ab_X) (y : Nat) (cuts : List Nat) (fst : Bool) (pos : List ab_E) (e : ab_E) (rest : List ab_E) (L : ab_L) (S : List ab_V) (G : ab_G) (h : ab_H) (cn sn : Nat) (k : ab_K) : Bool :=
  bif (bif fst then true else Nat.beq e.2.1 0) then ab_ap (ab_hd BS P NF e.2.2) ih y cuts pos e.1 rest L S G h cn sn k else
  bif cuts.elem e.1 then k 2 e.1 S L G h cn sn else
  match HS y e.1, S with
  | some B, [] => ab_loop BS P ih y cuts pos e.1 B L G h cn sn k (ab_ap (ab_hd BS P NF e.2.2) ih y cuts pos e.1 rest L S G h cn sn k)
  | _, _ => ab_ap (ab_hd BS P NF e.2.2) ih y cuts pos e.1 rest L S G h cn sn k
noncomputable def ab_bodyF (HS : Nat → Nat → Option ab_B) (ih : ab_X) : ab_X := fun y cuts fst pos L S G h cn sn k => match pos with
  | [] => false
  | e :: rest => ab_bdF BS P NF HS ih y cuts fst pos e rest L S G h cn sn k
theorem ab_bodyF_eq (HS : Nat → Nat → Option ab_B) (ih : ab_X) : ab_bodyF BS P NF HS ih = ab_body BS P NF HS ih := by
  funext y cuts fst pos L S G h cn sn k
  cases pos with
  | nil => rfl
  | cons e rest =>
    obtain ⟨pc, fl, cl, A, x1, x2, X⟩ := e
    show ab_bdF BS P NF HS ih y cuts fst _ (pc, fl, cl, A, x1, x2, X) rest L S G h cn sn k = _
    unfold ab_bdF ab_body
    dsimp only
    rw [ab_ap_eq]
    cases HS y pc <;> cases S <;> rfl
noncomputable def ab_runF (HS : Nat → Nat → Option ab_B) (n : Nat) : ab_X := Nat.rec (fun _ _ _ _ _ _ _ _ _ _ _ => false) (fun _ ih => ab_bodyF BS P NF HS ih) n
theorem ab_runF_eq (HS : Nat → Nat → Option ab_B) : ∀ n, ab_runF BS P NF HS n = ab_run BS P NF HS n
  | 0 => rfl
  | n + 1 => by
    show ab_bodyF BS P NF HS (ab_runF BS P NF HS n) = ab_body BS P NF HS (ab_run BS P NF HS n)
    rw [ab_runF_eq HS n, ab_bodyF_eq]
end FA
