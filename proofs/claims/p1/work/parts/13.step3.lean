/-! STEPS: the table's jump; fields, new objects, rows of numbers, returns. -/
theorem ab_at_eq {α : Type} : ∀ (l : List α) (i : Nat), ab_at l i = l[i]?
  | [], _ => rfl
  | _ :: _, 0 => rfl
  | a :: l, i + 1 => by
    show ab_at l i = _
    rw [ab_at_eq l i]
    rfl
def ab_EL (Z : ab_ZT) (y pc k : Nat) (A : Int) (x1 x2 : Nat) (Xs : List Nat) (ins : Instr) (len : Nat) : Prop :=
  match k with
  | 30 => len = 3 ∧ ∃ i, ins = .getfield i ∧ Cond.fieldLink (ab_zY Z y).cls i ((ab_zCT Z x1).2 x2).1 ((ab_zCT Z x1).2 x2).2.1 ((ab_zCT Z x1).2 x2).2.2.1 ∈ ab_zTW Z ∧ x2 < ab_zNF Z x1 ∧ A.toNat = ab_zFT Z x1 x2 ∧ ab_CL (ab_zcl Z) (ab_zNF Z) (ab_zFT Z) (ab_zTW Z) x1 (ab_zCT Z x1).1 (ab_zCT Z x1).2
  | 31 => len = 3 ∧ ∃ i, ins = .putfield i ∧ Cond.fieldLink (ab_zY Z y).cls i ((ab_zCT Z x1).2 x2).1 ((ab_zCT Z x1).2 x2).2.1 ((ab_zCT Z x1).2 x2).2.2.1 ∈ ab_zTW Z ∧ x2 < ab_zNF Z x1 ∧ A.toNat = ab_zFT Z x1 x2 ∧ ab_CL (ab_zcl Z) (ab_zNF Z) (ab_zFT Z) (ab_zTW Z) x1 (ab_zCT Z x1).1 (ab_zCT Z x1).2 ∧
      (((ab_zCT Z x1).2 x2).2.2.2 = true → (ab_zY Z y).name = "<init>" ∧ ((ab_zCT Z x1).2 x2).1 = (ab_zY Z y).cls)
  | 32 => len = 3 ∧ ∃ i, ins = .new i ∧ Cond.classLink (ab_zY Z y).cls i (ab_zCT Z x1).1 ∈ ab_zTW Z ∧ Cond.instantiable (ab_zCT Z x1).1 (ab_zNF Z x1) ∈ ab_zTW Z ∧ Cond.initialized (ab_zCT Z x1).1 ∈ ab_zTW Z ∧ ab_CL (ab_zcl Z) (ab_zNF Z) (ab_zFT Z) (ab_zTW Z) x1 (ab_zCT Z x1).1 (ab_zCT Z x1).2
  | 34 => len = 2 ∧ ab_k34 ins x1 ∧ Cond.arrayClass (ab_et x1) ∈ ab_zTW Z
  | 36 => len = 3 ∧ ∃ i, ins = .anewarray i ∧ Cond.classLink (ab_zY Z y).cls i (FieldType.array .long).toString ∈ ab_zTW Z
  | 37 => len = 1 ∧ ins = .arraylength
  | 38 => len = 1 ∧ ((x1 = 3 ∧ ins = .aaload) ∨ (x1 ≤ 2 ∧ ab_k38 ins x1))
  | 39 => len = 1 ∧ ab_k39 ins x1
  | 41 => len = 3 ∧ 1 ≤ ab_zFR Z y ∧ 52 ≤ ab_zLO Z y ∧ ∃ i, ins = .invokespecial i ∧ Cond.methodLink (ab_zY Z y).cls i Lib.objectInit ∈ ab_zTW Z ∧ Cond.instanceMethod Lib.objectInit ∈ ab_zTW Z ∧ Cond.code Lib.objectInit ⟨#[0xb1]⟩ 1 none ∈ ab_zTW Z
  | 50 => len = 1 ∧ ins = .return_ ∧ ab_zRT Z y = none
  | 51 => len = 1 ∧ ((ins = .ireturn ∧ x1 = 0 ∧ ab_zRT Z y = some .int) ∨ (ins = .lreturn ∧ x1 = 1 ∧ ab_zRT Z y = some .long) ∨ (ins = .areturn ∧ x1 = 2 ∧ ∃ rt, ab_zRT Z y = some rt ∧ ((∃ n, rt = .object n) ∨ ∃ t, rt = .array t)))
  | 52 => len = 1 ∧ ins = .ireturn ∧ ab_zRT Z y = some .boolean
  | _ => True
theorem ab_vS_new {A : Nat → Prop} {H0 H H1 : Heap} {locs : List Loc} (h : va_S A H0 H locs) {n : Nat} (hz : H1.size = H.size + n) (ho : ∀ q : Nat, q < H.size → H1[q]? = H[q]?) : va_S A H0 H1 locs :=
  ⟨by rw [hz]; exact Nat.le_trans h.1 (Nat.le_add_right _ _), fun q h1 h2 => (ho q (Nat.lt_of_lt_of_le h1 h.1)).trans (h.2.1 q h1 h2), h.2.2⟩
theorem ab_ad_new {U : ab_UT} {c : Nat} (h : c ≠ 0) : ab_nA U (ab_ad U.2.2.1 U.2.2.2 c) := by
  cases c with
  | zero => exact (h rfl).elim
  | succ k => exact Nat.le_add_right _ _
section ST3
variable {Z : ab_ZT} {U : ab_UT} {F : ab_X} {y : Nat} {X : ab_XT} {ρ : Nat → Int} {cuts : List Nat} {pc : Nat} {A : Int} {x1 x2 : Nat} {Xs : List Nat} {rest : List ab_E} {L : ab_L} {S : List ab_V} {G : ab_G} {h : ab_H} {cn sn : Nat} {k : ab_K} {ins : Instr} {len : Nat}
theorem ab_w24 (hih : ab_Ok Z U F) (hc : ab_Cx Z U y X) (hk : ab_Hk Z U y X G.1 ρ k) (hd : decode (ab_zCB Z y) pc = .ok (ins, len)) (hE : ab_EK Z y pc 24 A x1 x2 Xs rest ins len) {z : Int} (hz : ab_R 0 z) {G' : ab_G} {S' : List ab_V} (hs : ab_Sat ρ G') (hg : G'.1 = G.1)
    (hx : F y cuts false (ab_dr (ab_tb A x1 Xs z) (ab_zP Z y).1) L S' G' h cn sn k = true) {H : Heap} {ls : Array Slot} {st : List Value} {locs : List Loc} (a1 : ab_rH Z U G.1 ρ h H) (a2 : ab_rL U G.1 ρ (ab_zML Z y) L ls) (a3 : ab_rS U G.1 ρ S' st) (a4 : va_S (ab_nA U) (ab_xs X).heap H locs) : ab_W X H locs cn sn (F0 (ab_xm X) pc ls (.int (Int32.ofInt z) :: st)) := by
  obtain ⟨dflt, lo, hi, offs, tgt, rfl, rfl, rfl, ht, hg0, hcs⟩ := hE
  have hE : ab_Ext G.1 ρ G'.1 ρ := by rw [hg]; exact ab_Ext.rf _ _
  have ez := ab_t32 hz
  have out : (z < lo ∨ lo + (Xs.length : Int) - 1 < z) → ab_tb lo x1 Xs z = x1 → ab_W X H locs cn sn (F0 (ab_xm X) pc ls (.int (Int32.ofInt z) :: st)) := fun q e => by
    rw [e] at hx
    have go := ab_jp hih hc hx hg0 hs hk hE H ls st locs
    rw [hg] at go
    exact lv_tableOut hc.1 hc.2.1 hd (by rw [ez]; exact q) ht (go a1 a2 a3 a4)
  cases hb : ab_le lo z
  · have e : ab_tb lo x1 Xs z = x1 := by unfold ab_tb; rw [hb]; rfl
    exact out (Or.inl (ab_nle hb)) e
  · have hle := (ab_le_iff _ _).mp hb
    cases hq : ab_at Xs (z - lo).toNat with
    | none =>
      have e : ab_tb lo x1 Xs z = x1 := by unfold ab_tb; rw [hb, cond_true, hq]
      rw [ab_at_eq, List.getElem?_eq_none_iff] at hq
      exact out (Or.inr (by omega)) e
    | some t =>
      have e : ab_tb lo x1 Xs z = t := by unfold ab_tb; rw [hb, cond_true, hq]
      obtain ⟨off, t2, o1, o2, o3⟩ := hcs _ _ hq
      rw [ab_at_eq] at hq
      have hlt := (List.getElem?_eq_some_iff.mp hq).1
      rw [e] at hx
      have go := ab_jp hih hc hx o3 hs hk hE H ls st locs
      rw [hg] at go
      exact lv_tableIn hc.1 hc.2.1 hd (by rw [ez]; omega) (by rw [ez]; omega) (by rw [ez]; exact o1) o2 (go a1 a2 a3 a4)
theorem ab_st24 (hih : ab_Ok Z U F) (hc : ab_Cx Z U y X) (hs : ab_Sat ρ G) (hk : ab_Hk Z U y X G.1 ρ k) (hd : decode (ab_zCB Z y) pc = .ok (ins, len)) (hE : ab_EK Z y pc 24 A x1 x2 Xs rest ins len)
    (hx : ab_i24 A x1 Xs S G (fun S' t G' => F y cuts false (ab_dr t (ab_zP Z y).1) L S' G' h cn sn k) = true) : ab_Go Z U y X ρ G.1 pc S L h cn sn := by
  unfold ab_i24 at hx
  split at hx
  · rename_i a0 S'
    intro H ls st locs a1 a2 a3 a4
    obtain ⟨x, st1, rfl, ⟨rfl, b3, b4⟩, b5⟩ := a3.cons
    obtain ⟨n1, n2⟩ := ab_nm_ok hs b4
    split at hx
    · rename_i z hz
      rw [hz] at n2
      have n3 : z = ab_sv ρ a0 := n2
      rw [n3] at hx
      exact ab_w24 hih hc hk hd hE b3 hs rfl hx a1 a2 b5 a4
    · rename_i i hi
      rw [hi] at n1 n2
      have n3 : ρ i = ab_sv ρ a0 := n2
      have iv : (ab_ivI G i).1 ≤ ρ i ∧ ρ i ≤ (ab_ivI G i).2 := ab_iv_ok hs (s := .inr i) n1
      rw [← n3] at b3 ⊢
      obtain ⟨q1, q2⟩ := ab_an hx
      obtain ⟨q2, q3⟩ := ab_an q2
      have e0 : ∀ z, z < A → ab_tb A x1 Xs z = x1 := fun z hz => by
        unfold ab_tb
        cases hb : ab_le A z
        · rfl
        · have := (ab_le_iff _ _).mp hb
          omega
      have e1 : ∀ z, A + (Xs.length : Int) ≤ z → ab_tb A x1 Xs z = x1 := fun z hz => by
        unfold ab_tb
        cases hb : ab_le A z
        · rfl
        · have : Xs[(z - A).toNat]? = none := List.getElem?_eq_none (by omega)
          rw [cond_true, ab_at_eq, this]
      by_cases c1 : ρ i < A
      · rcases ab_or q1 with q | q
        · have := (ab_le_iff _ _).mp q
          omega
        · have hs' := ab_ct_ok hs (a := .inr i) n1 (p := (ab_ivI G i).1) (q := ab_min (ab_ivI G i).2 (A - 1)) ⟨iv.1, by rw [ab_min_eq]; show ρ i ≤ _; omega⟩
          exact ab_w24 hih hc hk hd hE b3 hs'.1 hs'.2 (by rw [e0 _ c1]; exact q) a1 a2 b5 a4
      · by_cases c2 : A + (Xs.length : Int) ≤ ρ i
        · rcases ab_or q2 with q | q
          · have := (ab_le_iff _ _).mp q
            have e9 : Int.ofNat Xs.length = (Xs.length : Int) := rfl
            omega
          · have hs' := ab_ct_ok hs (a := .inr i) n1 (p := ab_max (ab_ivI G i).1 (A + .ofNat Xs.length)) (q := (ab_ivI G i).2) ⟨by rw [ab_max_eq]; show _ ≤ ρ i; have e9 : Int.ofNat Xs.length = (Xs.length : Int) := rfl; omega, iv.2⟩
            exact ab_w24 hih hc hk hd hE b3 hs'.1 hs'.2 (by rw [e1 _ c2]; exact q) a1 a2 b5 a4
        · have q4 := ab_spl_ok q3 (ρ i) (by rw [ab_max_eq]; omega) (by
            rw [ab_max_eq, ab_min_eq]
            have e9 : Int.ofNat Xs.length = (Xs.length : Int) := rfl
            omega)
          have hs' := ab_ct_ok hs (a := .inr i) n1 (p := ρ i) (q := ρ i) ⟨Int.le_refl _, Int.le_refl _⟩
          exact ab_w24 hih hc hk hd hE b3 hs'.1 hs'.2 q4 a1 a2 b5 a4
  · cases hx
theorem ab_st25 (hih : ab_Ok Z U F) (hc : ab_Cx Z U y X) (hs : ab_Sat ρ G) (hk : ab_Hk Z U y X G.1 ρ k) (hd : decode (ab_zCB Z y) pc = .ok (ins, len)) (hE : ab_EK Z y pc 25 A x1 x2 Xs rest ins len)
    (hx : ab_i25 A S G (fun S' => F y cuts false (ab_dr x1 (ab_zP Z y).1) L S' G h cn sn k) = true) : ab_Go Z U y X ρ G.1 pc S L h cn sn := by
  obtain ⟨dflt, ps, off, tgt, rfl, hp, ho, ht, hg⟩ := hE
  unfold ab_i25 at hx
  split at hx
  · rename_i a0 S'
    intro H ls st locs a1 a2 a3 a4
    obtain ⟨x, st1, rfl, ⟨rfl, b3, b4⟩, b5⟩ := a3.cons
    obtain ⟨n1, n2⟩ := ab_nm_ok hs b4
    split at hx
    · rename_i z hz
      rw [hz] at n2
      have n3 : z = ab_sv ρ a0 := n2
      obtain ⟨q1, q2⟩ := ab_an hx
      have e1 : z = A := (ab_eq_iff _ _).mp q1
      have e2 : ab_sv ρ a0 = A := n3.symm.trans e1
      rw [e2] at b3 ⊢
      exact lv_lookup hc.1 hc.2.1 hd hp (by rw [ab_t32 b3]; exact ho) ht (ab_jp hih hc q2 hg hs hk (ab_Ext.rf _ _) H ls _ locs a1 a2 b5 a4)
    · cases hx
  · cases hx
theorem ab_st30 (hih : ab_Ok Z U F) (hc : ab_Cx Z U y X) (hs : ab_Sat ρ G) (hk : ab_Hk Z U y X G.1 ρ k) (hd : decode (ab_zCB Z y) pc = .ok (ins, len)) (hr : ∃ i, rest = ab_dr i (ab_zP Z y).1) (hn : ∀ e r, rest = e :: r → e.1 = pc + len) (hE : ab_EL Z y pc 30 A x1 x2 Xs ins len)
    (hx : ab_i30 (ab_zBS Z) x1 x2 A.toNat S h (fun S' => F y cuts false rest L S' G h cn sn k) = true) : ab_Go Z U y X ρ G.1 pc S L h cn sn := by
  obtain ⟨rfl, i, rfl, hl, h2, h3, hCL⟩ := hE
  unfold ab_i30 at hx
  split at hx
  · rename_i c S'
    split at hx
    · rename_i cj fs hcl
      obtain ⟨q1, q2⟩ := ab_an hx
      have ec : x1 = cj := ab_beq q1
      subst ec
      have q3 : F y cuts false rest L (ab_fv (ab_zFT Z) x1 fs x2 :: S') G h cn sn k = true := by
        unfold ab_fv
        rw [← h3]
        split at q2
        · rename_i v hv
          rw [hv]
          exact q2
        · rename_i hv
          rw [hv]
          exact q2
      intro H ls st locs a1 a2 a3 a4
      obtain ⟨x, st1, rfl, b1, b5⟩ := a3.cons
      have ex : x = .ref (ab_ad U.2.2.1 U.2.2.2 c) := b1
      subst ex
      exact ab_w30 hc.1 hc.2.1 hc.2.2.2.2.2.2.2.1 hc.2.2.2.1 hc.2.2.2.2.2.2.2.2.1.1 hCL h2 hl ((a1.2.2 _ _ hcl).2) hd (fun x hv => ab_nx hih hc q3 hr hn hs hk (ab_Ext.rf _ _) H ls _ locs a1 a2 ⟨hv, b5⟩ a4)
    · cases hx
  · cases hx
theorem ab_st31 (hih : ab_Ok Z U F) (hc : ab_Cx Z U y X) (hs : ab_Sat ρ G) (hk : ab_Hk Z U y X G.1 ρ k) (hd : decode (ab_zCB Z y) pc = .ok (ins, len)) (hr : ∃ i, rest = ab_dr i (ab_zP Z y).1) (hn : ∀ e r, rest = e :: r → e.1 = pc + len) (hE : ab_EL Z y pc 31 A x1 x2 Xs ins len)
    (hx : ab_i31 (ab_zBS Z) x1 x2 A.toNat S G h (fun S' h' => F y cuts false rest L S' G h' cn sn k) = true) : ab_Go Z U y X ρ G.1 pc S L h cn sn := by
  obtain ⟨rfl, i, rfl, hl, h2, h3, hCL, hfin⟩ := hE
  unfold ab_i31 at hx
  split at hx
  · rename_i v c S'
    split at hx
    · rename_i cj fs hcl
      obtain ⟨q1, q2⟩ := ab_an hx
      rcases ab_if q1 with ⟨_, q⟩ | ⟨q0, q1⟩
      · cases q
      obtain ⟨q1, q4⟩ := ab_an q1
      have ec : x1 = cj := ab_beq q1
      subst ec
      have hc0 : c ≠ 0 := Nat.ne_of_beq_eq_false q0
      intro H ls st locs a1 a2 a3 a4
      obtain ⟨x, st1, rfl, b1, b5⟩ := a3.cons
      obtain ⟨x', st2, rfl, c1, c5⟩ := b5.cons
      have ex : x' = .ref (ab_ad U.2.2.1 U.2.2.2 c) := c1
      subst ex
      refine ab_w31 hc.1 hc.2.1 hc.2.2.2.2.2.2.2.1 hc.2.2.2.1 hc.2.2.2.2.2.2.2.2.1.1 hCL h2 hl (fun q => ⟨hc.2.2.2.2.1.trans (hfin q).1, (hfin q).2⟩) ((a1.2.2 _ _ hcl).2) hd (b1.nm hs) (fun ty hty => ab_fit_ok hs (by rw [h3]; exact hty) b1 q4) (fun H1 j g1 g2 g3 => ?_)
      exact ab_nx hih hc q2 hr hn hs hk (ab_Ext.rf _ _) H1 ls _ _ (a1.put hc.2.2.2.2.2.2.2.2.2.2.2.1 hcl g1.rm1 g2 g3) a2 c5 (a4.put g2 g3 (ab_ad_new hc0))
    · cases hx
  · cases hx
theorem ab_rm_ok (hc : ab_Cx Z U y X) {a b : Nat} (h : ab_rm (ab_zP Z) y a b = true) : a ≤ (ab_xR X).cells ∧ b ≤ (ab_xR X).slots := by
  obtain ⟨h1, h2⟩ := ab_an h
  have hR := hc.2.2.2.2.2.2.2.2.2.2.1
  rw [hR.2.2.1, hR.2.2.2]
  exact ⟨ab_ble h1, ab_ble h2⟩
theorem ab_st32 (hih : ab_Ok Z U F) (hc : ab_Cx Z U y X) (hs : ab_Sat ρ G) (hk : ab_Hk Z U y X G.1 ρ k) (hd : decode (ab_zCB Z y) pc = .ok (ins, len)) (hr : ∃ i, rest = ab_dr i (ab_zP Z y).1) (hn : ∀ e r, rest = e :: r → e.1 = pc + len) (hE : ab_EL Z y pc 32 A x1 x2 Xs ins len)
    (hx : (bif ab_rm (ab_zP Z) y (cn + 1) (sn + ab_zNF Z x1) then F y cuts false rest L (.inr (.inl h.1) :: S) G (ab_new h (.inl (x1, []))) (cn + 1) (sn + ab_zNF Z x1) k else false) = true) : ab_Go Z U y X ρ G.1 pc S L h cn sn := by
  obtain ⟨rfl, i, rfl, hl, h2, h3, hCL⟩ := hE
  obtain ⟨q1, q2⟩ := ab_an hx
  obtain ⟨r1, r2⟩ := ab_rm_ok hc q1
  intro H ls st locs a1 a2 a3 a4
  refine ab_w32 (ρ := ρ) (n := G.1) (b := U.2.2.1) (B := U.2.2.2) (dA := U.2.1) hc.1 hc.2.1 hc.2.2.2.2.2.2.2.1 hc.2.2.2.1 hc.2.2.2.2.2.2.2.2.1.1 hCL hl h2 (hc.2.2.2.2.2.2.2.1 _ h3) r1 r2 hd (fun H1 g1 g2 g3 => ?_)
  exact ab_nx hih hc q2 hr hn hs hk (ab_Ext.rf _ _) H1 ls _ _ (a1.new hc.2.2.2.2.2.2.2.2.2.2.2.1 g1 g2 g3) a2 ⟨(by show Value.ref H.size = .ref _; rw [a1.addr]), a3⟩ (ab_vS_new a4 g2 g3)
theorem ab_st34 (hih : ab_Ok Z U F) (hc : ab_Cx Z U y X) (hs : ab_Sat ρ G) (hk : ab_Hk Z U y X G.1 ρ k) (hd : decode (ab_zCB Z y) pc = .ok (ins, len)) (hr : ∃ i, rest = ab_dr i (ab_zP Z y).1) (hn : ∀ e r, rest = e :: r → e.1 = pc + len) (hE : ab_EL Z y pc 34 A x1 x2 Xs ins len)
    (hx : ab_i34 x1 S G h (fun S' h' n => bif ab_rm (ab_zP Z) y (cn + 1) (sn + n) then F y cuts false rest L S' G h' (cn + 1) (sn + n) k else false) = true) : ab_Go Z U y X ρ G.1 pc S L h cn sn := by
  obtain ⟨rfl, h1, h2⟩ := hE
  unfold ab_i34 at hx
  split at hx
  · rename_i a0 S'
    split at hx
    · rename_i n hnm
      obtain ⟨q1, q2⟩ := ab_an hx
      obtain ⟨q3, q4⟩ := ab_an q2
      obtain ⟨r1, r2⟩ := ab_rm_ok hc q3
      intro H ls st locs a1 a2 a3 a4
      obtain ⟨x, st1, rfl, ⟨rfl, b3, b4⟩, b5⟩ := a3.cons
      obtain ⟨n1, n2⟩ := ab_nm_ok hs b4
      rw [hnm] at n2
      have n3 : Int.ofNat n = ab_sv ρ a0 := n2
      rw [← n3]
      refine ab_w34 (ρ := ρ) (n := G.1) (b := U.2.2.1) (B := U.2.2.2) (NF := ab_zNF Z) (FT := ab_zFT Z) hc.1 hc.2.1 hc.2.2.2.2.2.2.2.1 hc.2.2.2.2.2.2.2.2.1.1 h1 h2 (ab_ble q1) r1 r2 hd (fun H1 g1 g2 g3 => ?_)
      exact ab_nx hih hc q4 hr hn hs hk (ab_Ext.rf _ _) H1 ls _ _ (a1.new hc.2.2.2.2.2.2.2.2.2.2.2.1 g1 g2 g3) a2 ⟨(by show Value.ref H.size = .ref _; rw [a1.addr]), b5⟩ (ab_vS_new a4 g2 g3)
    · cases hx
  · cases hx
theorem ab_st37 (hih : ab_Ok Z U F) (hc : ab_Cx Z U y X) (hs : ab_Sat ρ G) (hk : ab_Hk Z U y X G.1 ρ k) (hd : decode (ab_zCB Z y) pc = .ok (ins, len)) (hr : ∃ i, rest = ab_dr i (ab_zP Z y).1) (hn : ∀ e r, rest = e :: r → e.1 = pc + len) (hE : ab_EL Z y pc 37 A x1 x2 Xs ins len)
    (hx : ab_i37 (ab_zBS Z) S h (fun S' => F y cuts false rest L S' G h cn sn k) = true) : ab_Go Z U y X ρ G.1 pc S L h cn sn := by
  obtain ⟨rfl, rfl⟩ := hE
  unfold ab_i37 at hx
  split at hx
  · rename_i c S'
    split at hx
    · rename_i ty n ct hcl
      obtain ⟨q0, q1⟩ := ab_an hx
      intro H ls st locs a1 a2 a3 a4
      obtain ⟨x, st1, rfl, b1, b5⟩ := a3.cons
      have ex : x = .ref (ab_ad U.2.2.1 U.2.2.2 c) := b1
      subst ex
      rcases (a1.2.2 _ _ hcl).2 with ⟨g, hw⟩ | ⟨g1, g2, z, g3, g4⟩
      · rcases ab_if q0 with ⟨q2, -⟩ | ⟨-, q2⟩
        · have := ab_ble q2
          omega
        · have e8 : ty = 8 := ab_beq q2
          subst e8
          unfold ab_RW at hw
          rw [if_pos rfl] at hw
          obtain ⟨scr, w1, w2, w3, w4, w5, w6, w7⟩ := hw
          refine W.alen (n := Int32.ofInt (.ofNat n)) hc.1 hc.2.1 w1 ⟨w4, by rw [w2]; exact hc.2.2.2.2.2.2.2.2.1.2.2.2.2.2.2.2⟩ (by rw [w5]; first | rfl | (simp; done) | exact (Int32.ofInt_eq_ofNat).symm) rfl rfl hd (ab_nx hih hc q1 hr hn hs hk (ab_Ext.rf _ _) H ls _ locs a1 a2 ⟨⟨rfl, ?_, trivial⟩, b5⟩ a4)
          show ab_R 0 (Int.ofNat n)
          have e9 : Int.ofNat n = (n : Int) := rfl
          constructor
          · rw [ab_lo0]; omega
          · rw [ab_hi0]; omega
      · refine ab_w37 hc.1 hc.2.1 hc.2.2.2.2.2.2.2.2.1.1 g1 g3 hd (ab_nx hih hc q1 hr hn hs hk (ab_Ext.rf _ _) H ls _ locs a1 a2 ⟨⟨rfl, ?_, trivial⟩, b5⟩ a4)
        show ab_R 0 (Int.ofNat n)
        have e9 : Int.ofNat n = (n : Int) := rfl
        constructor
        · rw [ab_lo0]; omega
        · rw [ab_hi0]; omega
    · cases hx
  · cases hx
theorem ab_st41 (hih : ab_Ok Z U F) (hc : ab_Cx Z U y X) (hs : ab_Sat ρ G) (hk : ab_Hk Z U y X G.1 ρ k) (hd : decode (ab_zCB Z y) pc = .ok (ins, len)) (hr : ∃ i, rest = ab_dr i (ab_zP Z y).1) (hn : ∀ e r, rest = e :: r → e.1 = pc + len) (hE : ab_EL Z y pc 41 A x1 x2 Xs ins len)
    (hx : (match S with
      | .inr (.inl _) :: S' => bif Nat.ble S'.length 20 then F y cuts false rest L S' G h cn sn k else false
      | _ => false) = true) : ab_Go Z U y X ρ G.1 pc S L h cn sn := by
  obtain ⟨rfl, h1, h2, i, rfl, w1, w2, w3⟩ := hE
  split at hx
  · rename_i c S'
    obtain ⟨q1, q2⟩ := ab_an hx
    intro H ls st locs a1 a2 a3 a4
    obtain ⟨x, st1, rfl, b1, b5⟩ := a3.cons
    have ex : x = .ref (ab_ad U.2.2.1 U.2.2.2 c) := b1
    subst ex
    have hw := b5.words
    have hq := ab_ble q1
    have hR := hc.2.2.2.2.2.2.2.2.2.2.1
    obtain ⟨lv, hl, hl2⟩ := a2
    have a2' : ab_rL U G.1 ρ (ab_zML Z y) L ls := ⟨lv, hl, hl2⟩
    refine W.objInit hc.1 hc.2.1 hc.2.2.2.1 (hc.2.2.2.2.2.2.2.1 _ w1) (hc.2.2.2.2.2.2.2.1 _ w2) (hc.2.2.2.2.2.2.2.1 _ w3) rfl (by show ls.size = _; rw [hl.1, hc.2.2.1]) rfl hd (by rw [hR.1]; exact h1) (by rw [hR.2.1]; show 2 * 0 + _ + 12 ≤ _; omega) ?_
    exact ab_nx hih hc q2 hr hn hs hk (ab_Ext.rf _ _) H ls _ locs a1 a2' b5 a4
  · cases hx
theorem ab_st50 (hc : ab_Cx Z U y X) (hs : ab_Sat ρ G) (hk : ab_Hk Z U y X G.1 ρ k) (hd : decode (ab_zCB Z y) pc = .ok (ins, len)) (hE : ab_EL Z y pc 50 A x1 x2 Xs ins len)
    (hx : (match S with
      | [] => k 0 pc [] L G h cn sn
      | _ :: _ => false) = true) : ab_Go Z U y X ρ G.1 pc S L h cn sn := by
  obtain ⟨rfl, rfl, h1⟩ := hE
  split at hx
  · intro H ls st locs a1 a2 a3 a4
    have e := a3.nil
    subst e
    exact hk 0 pc [] L G h cn sn ρ hx (ab_Ext.rf _ _) hs _ pc H ls [] locs hd ⟨h1, rfl⟩ a1 trivial a4
  · cases hx
theorem ab_st51 (hc : ab_Cx Z U y X) (hs : ab_Sat ρ G) (hk : ab_Hk Z U y X G.1 ρ k) (hd : decode (ab_zCB Z y) pc = .ok (ins, len)) (hE : ab_EL Z y pc 51 A x1 x2 Xs ins len)
    (hx : (match S with
      | [v] => bif ab_tag x1 v then k 0 pc [ab_nmV G v] L G h cn sn else false
      | _ => false) = true) : ab_Go Z U y X ρ G.1 pc S L h cn sn := by
  obtain ⟨rfl, hE⟩ := hE
  split at hx
  · rename_i v
    obtain ⟨q1, q2⟩ := ab_an hx
    intro H ls st locs a1 a2 a3 a4
    obtain ⟨x, st1, rfl, b1, b5⟩ := a3.cons
    have e := b5.nil
    subst e
    refine hk 0 pc [ab_nmV G v] L G h cn sn ρ q2 (ab_Ext.rf _ _) hs ins pc H ls [x] locs hd ?_ a1 ⟨b1.nm hs, trivial⟩ a4
    rcases hE with ⟨rfl, rfl, hr⟩ | ⟨rfl, rfl, hr⟩ | ⟨rfl, rfl, hr⟩
    · obtain ⟨z, rfl⟩ := ab_tag0 q1
      exact Or.inl ⟨hr, _, by rw [b1.1]⟩
    · obtain ⟨z, rfl⟩ := ab_tag1 q1
      exact ⟨hr, _, by rw [b1.1]⟩
    · obtain ⟨a, rfl⟩ := ab_tag2 q1 b1
      exact ⟨hr, _, rfl⟩
  · cases hx
theorem ab_st52 (hc : ab_Cx Z U y X) (hs : ab_Sat ρ G) (hk : ab_Hk Z U y X G.1 ρ k) (hd : decode (ab_zCB Z y) pc = .ok (ins, len)) (hE : ab_EL Z y pc 52 A x1 x2 Xs ins len)
    (hx : (match S with
      | [v] => bif ab_fit G 2 v then k 0 pc [ab_nmV G v] L G h cn sn else false
      | _ => false) = true) : ab_Go Z U y X ρ G.1 pc S L h cn sn := by
  obtain ⟨rfl, rfl, hr⟩ := hE
  split at hx
  · rename_i v
    obtain ⟨q1, q2⟩ := ab_an hx
    intro H ls st locs a1 a2 a3 a4
    obtain ⟨x, st1, rfl, b1, b5⟩ := a3.cons
    have e := b5.nil
    subst e
    obtain ⟨g1, g2⟩ := ab_fit_ok hs (t := 2) (ty := .boolean) rfl b1 q1
    refine hk 0 pc [ab_nmV G v] L G h cn sn ρ q2 (ab_Ext.rf _ _) hs _ pc H ls [x] locs hd (Or.inr ⟨hr, ?_⟩) a1 ⟨b1.nm hs, trivial⟩ a4
    cases x with
    | int z => exact ⟨z, rfl, g1⟩
    | _ => cases g2
  · cases hx
end ST3
