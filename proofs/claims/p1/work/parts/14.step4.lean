/-! STEPS: loads and stores of rows, rows of rows. -/
theorem ab_fit_ty {b B : Nat} {ρ : Nat → Int} {G : ab_G} (hs : ab_Sat ρ G) {t : Nat} {v : ab_V} {x : Value} (ht : t ≤ 2) (h : ab_RV b B G.1 ρ v x) (hf : ab_fit G t v = true) : ab_ty t x := by
  match t, ht with
  | 0, _ =>
    have := (ab_fit_ok hs (t := 0) (ty := .int) rfl h hf).2
    cases x with
    | int z => exact ⟨z, rfl⟩
    | _ => cases this
  | 1, _ =>
    have := (ab_fit_ok hs (t := 1) (ty := .long) rfl h hf).2
    cases x with
    | long z => exact ⟨z, rfl⟩
    | _ => cases this
  | 2, _ =>
    have := (ab_fit_ok hs (t := 2) (ty := .boolean) rfl h hf).2
    cases x with
    | int z =>
      have h2 : (z == 0 || z == 1) = true := this
      rcases Bool.or_eq_true_iff.mp h2 with q | q
      · exact Or.inl (by rw [show z = 0 from eq_of_beq q])
      · exact Or.inr (by rw [show z = 1 from eq_of_beq q])
    | _ => cases this
  | _ + 3, h => omega
theorem ab_any_ok {b B : Nat} {ρ : Nat → Int} {G : ab_G} (hs : ab_Sat ρ G) {ty : Nat} {x : Value} (hx : ab_ty ty x) {f : ab_V → ab_G → Bool} (h : ab_any G ty f = true) : ∃ v G' ρ', f v G' = true ∧ ab_Ext G.1 ρ G'.1 ρ' ∧ ab_Sat ρ' G' ∧ ab_RV b B G'.1 ρ' v x := by
  unfold ab_any at h
  rcases ab_if h with ⟨q1, q2⟩ | ⟨-, h⟩
  · have e : ty = 0 := ab_beq q1
    subst e
    obtain ⟨v, rfl⟩ := hx
    obtain ⟨s1, G', ρ', f1, f2, f3, f4, f5⟩ := ab_fr_ok hs (z := v.toInt) (ab_R32 v) q2
    refine ⟨_, G', ρ', f1, f2, f3, ?_, ?_, f4⟩
    · rw [f5, Int32.ofInt_toInt]
    · rw [f5]; exact ab_R32 v
  · rcases ab_if h with ⟨q1, q2⟩ | ⟨-, h⟩
    · have e : ty = 1 := ab_beq q1
      subst e
      obtain ⟨v, rfl⟩ := hx
      obtain ⟨s1, G', ρ', f1, f2, f3, f4, f5⟩ := ab_fr_ok hs (z := v.toInt) (ab_R64 (k := 1) rfl v) q2
      refine ⟨_, G', ρ', f1, f2, f3, ?_, ?_, f4⟩
      · rw [f5, Int64.ofInt_toInt]
      · rw [f5]; exact ab_R64 rfl v
    · rcases ab_if h with ⟨q1, q2⟩ | ⟨-, h⟩
      · have e : ty = 2 := ab_beq q1
        subst e
        have go : ∀ z : Int, 0 ≤ z ∧ z ≤ 1 → x = .int (Int32.ofInt z) → ∃ v G' ρ', f v G' = true ∧ ab_Ext G.1 ρ G'.1 ρ' ∧ ab_Sat ρ' G' ∧ ab_RV b B G'.1 ρ' v x := fun z hz e => by
          obtain ⟨s1, G', ρ', f1, f2, f3, f4, f5⟩ := ab_fr_ok hs (z := z) hz q2
          refine ⟨_, G', ρ', f1, f2, f3, ?_, ?_, f4⟩
          · rw [f5, e]
          · rw [f5]
            constructor
            · rw [ab_lo0]; omega
            · rw [ab_hi0]; omega
        rcases hx with e | e
        · exact go 0 ⟨by omega, by omega⟩ e
        · exact go 1 ⟨by omega, by omega⟩ e
      · cases h
theorem ab_el_self {d v : ab_V} {l : ab_L} {j : Nat} : ab_el d ((j, v) :: l) j = v := by unfold ab_el; rw [ab_lk_self]
theorem ab_el_ne {d v : ab_V} {l : ab_L} {i j : Nat} (h : i ≠ j) : ab_el d ((i, v) :: l) j = ab_el d l j := by unfold ab_el; rw [ab_lk_ne _ _ h]
theorem ab_el_rm1 {d : ab_V} {l : ab_L} {i j : Nat} (h : i ≠ j) : ab_el d (ab_rm1 i l) j = ab_el d l j := by unfold ab_el; rw [ab_lk_rm1 h]
theorem ab_aupd_ok {b B : Nat} {ρ : Nat → Int} {G : ab_G} (hs : ab_Sat ρ G) {ct : ab_A} {i : ab_S} (hi : ab_oS G.1 i) {v : ab_V} {x : Value} (hv : ab_RV b B G.1 ρ v x) (h0 : 0 ≤ ab_sv ρ i) {zf : Nat → Value} {j : Nat} (hz : ab_rA b B G.1 ρ ct j (zf j)) : ab_rA b B G.1 ρ (ab_aupd G ct i v) j (updV zf (ab_sv ρ i).toNat x j) := by
  have hv' := hv.nm hs
  obtain ⟨n1, n2⟩ := ab_nm_ok hs hi
  have up : ∀ (P : Value → Prop), (j = (ab_sv ρ i).toNat → P x) → (j ≠ (ab_sv ρ i).toNat → P (zf j)) → P (updV zf (ab_sv ρ i).toNat x j) := fun P p1 p2 => by
    unfold updV
    by_cases e : j = (ab_sv ρ i).toNat
    · rw [if_pos e]; exact p1 e
    · rw [if_neg e]; exact p2 e
  unfold ab_aupd
  match ct, hz with
  | none, _ => exact trivial
  | some (d, l), hz =>
    dsimp only
    split
    · rename_i z hzz
      rw [hzz] at n2
      have n3 : z = ab_sv ρ i := n2
      subst n3
      cases l with
      | nil =>
        dsimp only
        cases hq : ab_veq (ab_nmV G v) d
        · exact up (fun w => ab_rA b B G.1 ρ (some (d, [((ab_sv ρ i).toNat, ab_nmV G v)])) j w) (fun e => by subst e; show ab_RV _ _ _ _ (ab_el _ _ _) _; rw [ab_el_self]; exact hv') (fun e => by show ab_RV _ _ _ _ (ab_el _ _ _) _; rw [ab_el_ne (Ne.symm e)]; exact hz)
        · have e := ab_veq_iff hq
          exact up (fun w => ab_rA b B G.1 ρ (some (d, [])) j w) (fun _ => by rw [e] at hv'; exact hv') (fun _ => hz)
      | cons q l =>
        exact up (fun w => ab_rA b B G.1 ρ (some (d, ((ab_sv ρ i).toNat, ab_nmV G v) :: ab_rm1 (ab_sv ρ i).toNat (q :: l))) j w) (fun e => by subst e; show ab_RV _ _ _ _ (ab_el _ _ _) _; rw [ab_el_self]; exact hv') (fun e => by show ab_RV _ _ _ _ (ab_el _ _ _) _; rw [ab_el_ne (Ne.symm e), ab_el_rm1 (Ne.symm e)]; exact hz)
    · cases l with
      | nil =>
        dsimp only
        cases hq : ab_veq (ab_nmV G v) d
        · exact trivial
        · have e := ab_veq_iff hq
          exact up (fun w => ab_rA b B G.1 ρ (some (d, [])) j w) (fun _ => by rw [e] at hv'; exact hv') (fun _ => hz)
      | cons q l => exact trivial
theorem ab_ty_upd {t : Nat} {zf : Nat → Value} {i j : Nat} {x : Value} (hx : ab_ty t x) (hz : ab_ty t (zf j)) : ab_ty t (updV zf i x j) := by
  unfold updV
  by_cases e : j = i
  · rw [if_pos e]; exact hx
  · rw [if_neg e]; exact hz
theorem ab_RC_row {dC : Nat → ClassId} {dI : Nat → Nat → Nat} {dA : Nat → ClassId} {NF : Nat → Nat} {FT : Nat → Nat → Nat} {b B n : Nat} {ρ : Nat → Int} {ty len : Nat} {ct : ab_A} {oc : Option Cell} : ab_RC dC dI dA NF FT b B n ρ (.inr (ty, len, ct)) oc ↔ (5 ≤ ty ∧ ab_RW dA b B n ρ ty len ct oc) ∨ (ty ≤ 4 ∧ len ≤ 1000000 ∧ ∃ z : Nat → Value, oc = some (arrV (dA ty) len z) ∧ ∀ j, j < len → ab_ty ty (z j) ∧ ab_rA b B n ρ ct j (z j)) := by
  match ct with
  | none => exact Iff.rfl
  | some (d, l) => exact Iff.rfl
theorem ab_overA {args : Array Value} {first s : State} {o : Option Outcome} {idx : List Nat} {t : FieldType} (h : (Cond.arrayOver (.array t)).holds args first o s idx = true) :
    ∃ comp c k, s.vm.findClass (FieldType.array t).toString = some comp ∧ (s.vm.classes.findIdx? fun (x : Class) => match x.kind with | .array component _ => component == comp | _ => false) = some c ∧ s.vm.classes[c]? = some k ∧ k.kind = .array comp (.array t) ∧ s.vm.findClass ("[" ++ (FieldType.array t).toString) = some c := by
  simp only [Cond.holds, Cond.value, beq_iff_eq] at h
  cases hc : s.vm.findClass (FieldType.array t).toString with
  | none => simp [hc] at h
  | some comp =>
    simp only [hc, Option.bind_some, Option.bind_eq_some_iff, Option.map_eq_some_iff] at h
    obtain ⟨c, hi, k, hk, hb⟩ := h
    have hp := (Array.findIdx?_eq_some_iff_getElem.mp hi).2.1
    rw [(Array.getElem?_eq_some_iff.mp hk).2] at hp
    cases hkind : k.kind with
    | array component ty =>
      rw [hkind] at hb hp
      simp at hb hp
      exact ⟨comp, c, k, rfl, hi, hk, by rw [hkind, hp, hb.1], hb.2⟩
    | _ => rw [hkind] at hb; simp at hb
theorem ab_k38_le {ins : Instr} {t : Nat} (h : ab_k38 ins t) : t ≤ 4 := by
  unfold ab_k38 at h
  split at h <;> first | exact h.elim | omega
def ab_EM (Z : ab_ZT) (y pc k : Nat) (A : Int) (x1 x2 : Nat) (Xs : List Nat) (ins : Instr) (len : Nat) : Prop :=
  match k with
  | 44 => len = 1 ∧ ins = .aastore
  | _ => True
section ST4
variable {Z : ab_ZT} {U : ab_UT} {F : ab_X} {y : Nat} {X : ab_XT} {ρ : Nat → Int} {cuts : List Nat} {pc : Nat} {A : Int} {x1 x2 : Nat} {Xs : List Nat} {pos rest : List ab_E} {L : ab_L} {S : List ab_V} {G : ab_G} {h : ab_H} {cn sn : Nat} {k : ab_K} {ins : Instr} {len : Nat}
theorem ab_in_ok (hs : ab_Sat ρ G) {i : ab_S} (hi : ab_oS G.1 i) {n : Nat} (h : ab_in n (ab_ivS G i).1 (ab_ivS G i).2 = true) : 0 ≤ ab_sv ρ i ∧ ab_sv ρ i < n := by
  obtain ⟨h1, h2⟩ := ab_an h
  have h3 := (ab_le_iff _ _).mp h1
  have h4 := (ab_le_iff _ _).mp h2
  have h5 := ab_iv_ok hs hi
  have e9 : Int.ofNat n = (n : Int) := rfl
  omega
theorem ab_st38 (hih : ab_Ok Z U F) (hc : ab_Cx Z U y X) (hs : ab_Sat ρ G) (hk : ab_Hk Z U y X G.1 ρ k) (hd : decode (ab_zCB Z y) pc = .ok (ins, len)) (hr : ∃ i, rest = ab_dr i (ab_zP Z y).1) (hn : ∀ e r, rest = e :: r → e.1 = pc + len) (hp : ∃ i, pos = ab_dr i (ab_zP Z y).1) (hpc : ∀ e r, pos = e :: r → e.1 = pc) (hE : ab_EL Z y pc 38 A x1 x2 Xs ins len)
    (hx : ab_i38 (ab_zBS Z) x1 S G h (fun S' G' => F y cuts false rest L S' G' h cn sn k) (fun G' => F y cuts true pos L S G' h cn sn k) = true) : ab_Go Z U y X ρ G.1 pc S L h cn sn := by
  obtain ⟨rfl, hE⟩ := hE
  unfold ab_i38 at hx
  split at hx
  · rename_i i c S'
    split at hx
    · rename_i tz n ct hcl
      obtain ⟨q1, q2⟩ := ab_an hx
      obtain ⟨q3, q4⟩ := ab_an q1
      have hkk : (tz = 8 ∧ ins = .iaload) ∨ ab_k38 ins tz := by
        rcases ab_if q3 with ⟨g1, g2⟩ | ⟨g1, g2⟩
        · obtain ⟨g3, g4⟩ := ab_an g2
          rcases hE with ⟨e1, rfl⟩ | ⟨e1, -⟩
          · have := ab_ble g3
            have := ab_ble g4
            right
            show tz = 3 ∨ tz = 4
            omega
          · have : x1 = 3 := ab_beq g1
            omega
        · rcases hE with ⟨e1, rfl⟩ | ⟨e1, e2⟩
          · exact (Nat.ne_of_beq_eq_false g1 e1).elim
          · rcases ab_if g2 with ⟨g3, g4⟩ | ⟨-, g4⟩
            · have e0 : x1 = 0 := ab_beq g4
              subst e0
              refine Or.inl ⟨ab_beq g3, ?_⟩
              unfold ab_k38 at e2
              split at e2
              · rfl
              · cases e2
              · cases e2
              · omega
              · exact e2.elim
            · right
              rw [← show x1 = tz from ab_beq g4]
              exact e2
      intro H ls st locs a1 a2 a3 a4
      obtain ⟨x, st1, rfl, b0, b5⟩ := a3.cons
      obtain ⟨x', st2, rfl, c1, c5⟩ := b5.cons
      have ex : x' = .ref (ab_ad U.2.2.1 U.2.2.2 c) := c1
      subst ex
      have b0' := b0
      obtain ⟨rfl, b3, b4⟩ := b0
      obtain ⟨i1, i2⟩ := ab_in_ok hs b4 q4
      have hj : (ab_sv ρ i).toNat < n := by omega
      obtain ⟨zf, g5, g6, rd⟩ : ∃ zf : Nat → Value, ab_ty tz (zf (ab_sv ρ i).toNat) ∧ ab_rA U.2.2.1 U.2.2.2 G.1 ρ ct (ab_sv ρ i).toNat (zf (ab_sv ρ i).toNat) ∧ (ab_W X H locs cn sn (F0 (ab_xm X) (pc + 1) ls (zf (ab_sv ρ i).toNat :: st2)) → ab_W X H locs cn sn (F0 (ab_xm X) pc ls (.int (Int32.ofInt (ab_sv ρ i)) :: .ref (ab_ad U.2.2.1 U.2.2.2 c) :: st2))) := by
        rcases ab_RC_row.mp (a1.2.2 _ _ hcl).2 with ⟨g, hw⟩ | ⟨g1, g2, zf, g3, g4⟩
        · rcases hkk with ⟨rfl, rfl⟩ | hkk
          · unfold ab_RW at hw
            rw [if_pos rfl] at hw
            obtain ⟨scr, w1, w2, w3, w4, w5, w6, w7⟩ := hw
            obtain ⟨z, w8, w9⟩ := w7 _ hj
            obtain ⟨u1, u2⟩ := ab_idx i1 i2 w6
            refine ⟨fun _ => .int z, trivial, w9, fun kk => W.iald (v := .int z) hc.1 hc.2.1 w1 ⟨w4, by rw [w2]; exact hc.2.2.2.2.2.2.2.2.1.2.2.2.2.2.2.2⟩ w3 (by rw [w5]; exact u2) (by rw [u1]; exact w8) rfl rfl hd kk⟩
          · have := ab_k38_le hkk
            omega
        · rcases hkk with ⟨rfl, -⟩ | hkk
          · omega
          · exact ⟨zf, (g4 _ hj).1, (g4 _ hj).2, fun kk => ab_w38 hc.1 hc.2.1 hc.2.2.2.2.2.2.2.2.1.1 hkk g3 g2 i1 i2 hd kk⟩
      · have any : ab_any G tz (fun v G' => F y cuts false rest L (v :: S') G' h cn sn k) = true → ab_W X H locs cn sn (F0 (ab_xm X) pc ls (.int (Int32.ofInt (ab_sv ρ i)) :: .ref (ab_ad U.2.2.1 U.2.2.2 c) :: st2)) := fun q => by
          obtain ⟨v, G', ρ', f1, f2, f3, f4⟩ := ab_any_ok (b := U.2.2.1) (B := U.2.2.2) hs g5 q
          exact rd (ab_nx hih hc f1 hr hn f3 hk f2 H ls _ locs (a1.ext f2) (a2.ext f2) ⟨f4, c5.ext f2⟩ a4)
        have say : ∀ v, ab_rV U G.1 ρ v (zf (ab_sv ρ i).toNat) → F y cuts false rest L (v :: S') G h cn sn k = true → ab_W X H locs cn sn (F0 (ab_xm X) pc ls (.int (Int32.ofInt (ab_sv ρ i)) :: .ref (ab_ad U.2.2.1 U.2.2.2 c) :: st2)) := fun v hv q =>
          rd (ab_nx hih hc q hr hn hs hk (ab_Ext.rf _ _) H ls _ locs a1 a2 ⟨hv, c5⟩ a4)
        match ct, g6, q2 with
        | none, _, q2 => exact any q2
        | some (d, l), g6, q2 =>
          have g7 : ab_rV U G.1 ρ (ab_el d l (ab_sv ρ i).toNat) (zf (ab_sv ρ i).toNat) := g6
          obtain ⟨n1, n2⟩ := ab_nm_ok hs b4
          dsimp only at q2
          split at q2
          · rename_i z hz
            rw [hz] at n2
            have n3 : z = ab_sv ρ i := n2
            subst n3
            refine say _ g7 ?_
            unfold ab_el
            split at q2
            · rename_i v hv
              rw [hv]; exact q2
            · rename_i hv
              rw [hv]; exact q2
          · rename_i j hj2
            rw [hj2] at n1 n2
            have n3 : ρ j = ab_sv ρ i := n2
            split at q2
            · exact say d g7 q2
            · rcases ab_if q2 with ⟨e1, e2⟩ | ⟨-, e2⟩
              · obtain ⟨e3, e4⟩ := ab_an e2
                have iv : (ab_ivI G j).1 ≤ ρ j ∧ ρ j ≤ (ab_ivI G j).2 := ab_iv_ok hs (s := .inr j) n1
                have e5 := ab_spl_ok e4 (ρ j) iv.1 (by omega)
                have hs' := ab_ct_ok hs (a := .inr j) n1 (p := ρ j) (q := ρ j) ⟨Int.le_refl _, Int.le_refl _⟩
                have hE' : ab_Ext G.1 ρ (ab_ct G (.inr j) (ρ j) (ρ j)).1 ρ := by rw [hs'.2]; exact ab_Ext.rf _ _
                have go := hih y cuts true pos L _ _ h cn sn k e5 hp X ρ hc hs'.1 (hk.ext hE') pc hpc
                rw [hs'.2] at go
                exact go H ls _ locs a1 a2 ⟨b0', rfl, c5⟩ a4
              · exact any e2
    · cases hx
  · cases hx
theorem ab_st39 (hih : ab_Ok Z U F) (hc : ab_Cx Z U y X) (hs : ab_Sat ρ G) (hk : ab_Hk Z U y X G.1 ρ k) (hd : decode (ab_zCB Z y) pc = .ok (ins, len)) (hr : ∃ i, rest = ab_dr i (ab_zP Z y).1) (hn : ∀ e r, rest = e :: r → e.1 = pc + len) (hE : ab_EL Z y pc 39 A x1 x2 Xs ins len)
    (hx : ab_i39 (ab_zBS Z) x1 S G h (fun S' h' => F y cuts false rest L S' G h' cn sn k) = true) : ab_Go Z U y X ρ G.1 pc S L h cn sn := by
  obtain ⟨rfl, hE⟩ := hE
  unfold ab_i39 at hx
  split at hx
  · rename_i v i c S'
    split at hx
    · rename_i tz n ct hcl
      obtain ⟨q1, q2⟩ := ab_an hx
      obtain ⟨q3, q4⟩ := ab_an q1
      obtain ⟨q5, q6⟩ := ab_an q3
      have et : x1 = tz := ab_beq q5
      subst et
      rcases ab_if q6 with ⟨_, q⟩ | ⟨q0, q6⟩
      · cases q
      rcases ab_if q6 with ⟨_, q⟩ | ⟨q7, q6⟩
      · cases q
      have hc0 : c ≠ 0 := Nat.ne_of_beq_eq_false q0
      have ht2 : x1 ≤ 2 := by
        rcases Nat.lt_or_ge x1 3 with g | g
        · omega
        · rw [Nat.ble_eq_true_of_le g] at q7; cases q7
      intro H ls st locs a1 a2 a3 a4
      obtain ⟨x, st1, rfl, b1, b5⟩ := a3.cons
      obtain ⟨x', st2, rfl, ⟨rfl, d3, d4⟩, c5⟩ := b5.cons
      obtain ⟨x2', st3, rfl, e1, e5⟩ := c5.cons
      have ex : x2' = .ref (ab_ad U.2.2.1 U.2.2.2 c) := e1
      subst ex
      obtain ⟨i1, i2⟩ := ab_in_ok hs d4 q4
      have hxt := ab_fit_ty hs ht2 b1 q6
      rcases ab_RC_row.mp (a1.2.2 _ _ hcl).2 with ⟨g, _⟩ | ⟨g1, g2, zf, g3, g4⟩
      · omega
      · refine ab_w39 hc.1 hc.2.1 hc.2.2.2.2.2.2.2.2.1.1 hE g3 g2 i1 i2 hxt hd (fun H1 f1 f2 f3 => ?_)
        refine ab_nx hih hc q2 hr hn hs hk (ab_Ext.rf _ _) H1 ls _ _ (a1.put hc.2.2.2.2.2.2.2.2.2.2.2.1 hcl (ab_RC_row.mpr (Or.inr ⟨g1, g2, _, f1, fun j hj => ?_⟩)) f2 f3) a2 e5 (a4.put f2 f3 (ab_ad_new hc0))
        exact ⟨ab_ty_upd hxt (g4 j hj).1, ab_aupd_ok hs d4 b1 i1 (g4 j hj).2⟩
    · cases hx
  · cases hx
theorem ab_assign (vm : Vm) (c : ClassId) : vm.assignable c c = true := by
  show Vm.assignableAux vm (255 + 1) c c = true
  rw [Vm.assignableAux]
  simp
theorem ab_st44 (hih : ab_Ok Z U F) (hc : ab_Cx Z U y X) (hs : ab_Sat ρ G) (hk : ab_Hk Z U y X G.1 ρ k) (hd : decode (ab_zCB Z y) pc = .ok (ins, len)) (hr : ∃ i, rest = ab_dr i (ab_zP Z y).1) (hn : ∀ e r, rest = e :: r → e.1 = pc + len) (hE : ab_EM Z y pc 44 A x1 x2 Xs ins len)
    (hx : ab_i44 (ab_zBS Z) S h (fun S' h' => F y cuts false rest L S' G h' cn sn k) = true) : ab_Go Z U y X ρ G.1 pc S L h cn sn := by
  obtain ⟨rfl, rfl⟩ := hE
  unfold ab_i44 at hx
  split at hx
  · rename_i v i c S'
    split at hx
    · rename_i tz n d lx tv nv cv hcl hcv
      obtain ⟨q1, q2⟩ := ab_an hx
      obtain ⟨q3, q4⟩ := ab_an q1
      obtain ⟨q5, q6⟩ := ab_an q3
      have et : tz = 4 := ab_beq q5
      subst et
      have ev : tv = 1 := ab_beq q6
      subst ev
      rcases ab_if q4 with ⟨_, q⟩ | ⟨q0, q7⟩
      · cases q
      have hc0 : c ≠ 0 := Nat.ne_of_beq_eq_false q0
      have hi := ab_ble q7
      intro H ls st locs a1 a2 a3 a4
      obtain ⟨x, st1, rfl, b1, b5⟩ := a3.cons
      obtain ⟨x', st2, rfl, ⟨rfl, d3, d4⟩, c5⟩ := b5.cons
      obtain ⟨x2', st3, rfl, e1, e5⟩ := c5.cons
      have ex : x = .ref (ab_ad U.2.2.1 U.2.2.2 v) := b1
      subst ex
      have ex : x2' = .ref (ab_ad U.2.2.1 U.2.2.2 c) := e1
      subst ex
      rcases ab_RC_row.mp (a1.2.2 _ _ hcl).2 with ⟨g, _⟩ | ⟨g1, g2, zf, g3, g4⟩
      · omega
      rcases ab_RC_row.mp (a1.2.2 _ _ hcv).2 with ⟨g, _⟩ | ⟨k1, k2, zv, k3, k4⟩
      · omega
      obtain ⟨u1, u2⟩ := ab_idx (z := Int.ofNat i) (n := n) (Int.natCast_nonneg i) (by have e9 : Int.ofNat i = (i : Int) := rfl; omega) g2
      have hK := hc.2.2.2.2.2.2.2.2.1.1
      obtain ⟨comp, cA, kA, o1, -, o2, o3, o4⟩ := ab_overA hc.2.2.2.2.2.2.2.2.1.2.2.1
      have eA : cA = U.2.1 4 := Option.some.inj (o4.symm.trans (hK.2 4 _ rfl).2)
      have eC : comp = U.2.1 1 := Option.some.inj (o1.symm.trans (hK.2 1 _ rfl).2)
      subst eA
      subst eC
      obtain ⟨-, kC, hkC, -⟩ := (hK.2 1 _ rfl).1 nv zv
      refine W.aast hc.1 hc.2.1 g3 (fun q h => by cases h) (fun h => by cases h) o2 o3 rfl hkC ⟨fun q => u2 (Or.inl q), by show _ < (arrV _ _ _).slots.size; rw [arrV_size]; exact Nat.not_le.mp fun q => u2 (Or.inr q)⟩ k3 (fun q h => by cases h) hkC (ab_assign _ _) rfl rfl hd fun H1 f1 f2 f3 => ?_
      rw [u1] at f1 ⊢
      refine ab_nx hih hc q2 hr hn hs hk (ab_Ext.rf _ _) H1 ls _ _ (a1.put hc.2.2.2.2.2.2.2.2.2.2.2.1 hcl (ab_RC_row.mpr (Or.inr ⟨g1, g2, _, by rw [f1, arrV_store], fun j hj => ⟨trivial, ?_⟩⟩)) f2 f3) a2 e5 (a4.put f2 f3 (ab_ad_new hc0))
      show ab_RV _ _ _ _ (ab_el d ((i, .inr (.inl v)) :: lx) j) (updV zf i _ j)
      unfold updV
      by_cases e : j = i
      · subst e
        rw [if_pos rfl, ab_el_self]
        exact rfl
      · rw [if_neg e, ab_el_ne (Ne.symm e)]
        exact (g4 j hj).2
    · cases hx
  · cases hx
theorem ab_st36 (hih : ab_Ok Z U F) (hc : ab_Cx Z U y X) (hs : ab_Sat ρ G) (hk : ab_Hk Z U y X G.1 ρ k) (hd : decode (ab_zCB Z y) pc = .ok (ins, len)) (hr : ∃ i, rest = ab_dr i (ab_zP Z y).1) (hn : ∀ e r, rest = e :: r → e.1 = pc + len) (hE : ab_EL Z y pc 36 A x1 x2 Xs ins len)
    (hx : ab_i34 4 S G h (fun S' h' n => bif ab_rm (ab_zP Z) y (cn + 1) (sn + n) then F y cuts false rest L S' G h' (cn + 1) (sn + n) k else false) = true) : ab_Go Z U y X ρ G.1 pc S L h cn sn := by
  obtain ⟨rfl, i, rfl, h1⟩ := hE
  unfold ab_i34 at hx
  split at hx
  · rename_i a0 S'
    split at hx
    · rename_i n hnm
      obtain ⟨q1, q2⟩ := ab_an hx
      obtain ⟨q3, q4⟩ := ab_an q2
      obtain ⟨r1, r2⟩ := ab_rm_ok hc q3
      have hn0 := ab_ble q1
      intro H ls st locs a1 a2 a3 a4
      obtain ⟨x, st1, rfl, ⟨rfl, b3, b4⟩, b5⟩ := a3.cons
      obtain ⟨n1, n2⟩ := ab_nm_ok hs b4
      rw [hnm] at n2
      have n3 : Int.ofNat n = ab_sv ρ a0 := n2
      rw [← n3] at b3 ⊢
      have et : (Int32.ofInt (Int.ofNat n)).toInt = n := ab_t32 b3
      have en : (Int32.ofInt (Int.ofNat n)).toNatClampNeg = n := by
        show (Int32.ofInt (Int.ofNat n)).toInt.toNat = n
        rw [et]; rfl
      have hK := hc.2.2.2.2.2.2.2.2.1.1
      refine W.anewA (t := .long) hc.1 hc.2.1 hc.2.2.2.1 (hc.2.2.2.2.2.2.2.1 _ h1) hc.2.2.2.2.2.2.2.2.1.2.2.1 rfl hd rfl (fun q => ?_) (by rw [en]; omega) r1 (by rw [en]; exact r2) (fun cA kA comp h3 _ _ _ => ?_)
      · rw [Int32.lt_iff_toInt_lt, et] at q
        have : (0 : Int32).toInt = 0 := rfl
        omega
      · rw [en, arrV_new]
        have eA : cA = U.2.1 4 := Option.some.inj (h3.symm.trans (hK.2 4 _ rfl).2)
        subst eA
        have g2 : (H.push (arrV (U.2.1 4) n fun _ => .null)).size = H.size + 1 := by simp
        have g3 : ∀ q : Nat, q < H.size → (H.push (arrV (U.2.1 4) n fun _ => .null))[q]? = H[q]? := fun q hq => by
          rw [Array.getElem?_push, if_neg (Nat.ne_of_lt hq)]
        have g1 : (H.push (arrV (U.2.1 4) n fun _ => .null))[H.size]? = some (arrV (U.2.1 4) n fun _ => .null) := by simp
        refine ab_nx hih hc q4 hr hn hs hk (ab_Ext.rf _ _) _ ls _ _ (a1.new hc.2.2.2.2.2.2.2.2.2.2.2.1 (ab_RC_row.mpr (Or.inr ⟨Nat.le_refl _, hn0, _, g1, fun j hj => ⟨trivial, ab_def_ok (b := U.2.2.1) (B := U.2.2.2) (n := G.1) (ρ := ρ) (t := 4) (ty := .array .long) rfl⟩⟩)) g2 g3) a2 ⟨(by show Value.ref H.size = .ref _; rw [a1.addr]), b5⟩ (ab_vS_new a4 g2 g3)
    · cases hx
  · cases hx
end ST4
