/-! STEPS: conversions, the stack's own rows, branches. -/
theorem ab_i2l_eq {z : Int} (h : ab_R 0 z) : (Int32.ofInt z).toInt64 = Int64.ofInt z ∧ ab_R 1 z := by
  have h1 := h.1
  have h2 := h.2
  rw [ab_lo0] at h1
  rw [ab_hi0] at h2
  have hR : ab_R 1 z := by
    constructor
    · rw [ab_loS rfl]; omega
    · rw [ab_hiS rfl]; omega
  refine ⟨?_, hR⟩
  apply Int64.toInt_inj.mp
  rw [Int32.toInt_toInt64, ab_t32 h, ab_t64 (by omega) (by omega)]
theorem ab_l2i_eq {z : Int} (h : ab_R 1 z) : (Int64.ofInt z).toInt32 = Int32.ofInt (ab_w 0 z) ∧ ab_R 0 (ab_w 0 z) := by
  have h1 := h.1
  have h2 := h.2
  rw [ab_loS rfl] at h1
  rw [ab_hiS rfl] at h2
  have e0 : ab_wr 0 z = z.bmod (2 ^ 32) := rfl
  have hb1 : -2147483648 ≤ z.bmod (2 ^ 32) := by
    have := Int.le_bmod (x := z) (m := 2 ^ 32) (by decide)
    omega
  have hb2 : z.bmod (2 ^ 32) < 2147483648 := by
    have := Int.bmod_lt (x := z) (m := 2 ^ 32) (by decide)
    omega
  have hR : ab_R 0 (ab_w 0 z) := by
    rw [ab_w_eq, e0]
    constructor
    · rw [ab_lo0]; exact hb1
    · rw [ab_hi0]; omega
  refine ⟨?_, hR⟩
  apply Int32.toInt_inj.mp
  rw [ab_t32 hR, ab_w_eq, e0, Int64.toInt_toInt32, ab_t64 h1 h2]
/-- an eighth of a number is a number (the library has it; it is used in the last part alone) -/
def ab_DDH : Prop := ∀ z : Int32, vf_n64 (FP.ddiv (FP.i2d z) 0x4020000000000000)
section ST2
variable {Z : ab_ZT} {U : ab_UT} {F : ab_X} {y : Nat} {X : ab_XT} {ρ : Nat → Int} {cuts : List Nat} {pc : Nat} {A : Int} {x1 x2 : Nat} {Xs : List Nat} {rest : List ab_E} {L : ab_L} {S : List ab_V} {G : ab_G} {h : ab_H} {cn sn : Nat} {k : ab_K} {ins : Instr} {len : Nat}
theorem ab_st8 (hih : ab_Ok Z U F) (hc : ab_Cx Z U y X) (hs : ab_Sat ρ G) (hk : ab_Hk Z U y X G.1 ρ k) (hd : decode (ab_zCB Z y) pc = .ok (ins, len)) (hr : ∃ i, rest = ab_dr i (ab_zP Z y).1) (hn : ∀ e r, rest = e :: r → e.1 = pc + len) (hE : ab_EK Z y pc 8 A x1 x2 Xs rest ins len)
    (hx : ab_i8 S (fun S' => F y cuts false rest L S' G h cn sn k) = true) : ab_Go Z U y X ρ G.1 pc S L h cn sn := by
  obtain ⟨rfl, rfl⟩ := hE
  unfold ab_i8 at hx
  split at hx
  · intro H ls st locs a1 a2 a3 a4
    obtain ⟨x, st1, rfl, ⟨rfl, b3, b4⟩, b5⟩ := a3.cons
    obtain ⟨e1, e2⟩ := ab_i2l_eq b3
    exact lv_i2l hc.1 hc.2.1 hd e1 (ab_nx hih hc hx hr hn hs hk (ab_Ext.rf _ _) H ls _ locs a1 a2 ⟨⟨rfl, e2, b4⟩, b5⟩ a4)
  · cases hx
theorem ab_st9 (hih : ab_Ok Z U F) (hc : ab_Cx Z U y X) (hs : ab_Sat ρ G) (hk : ab_Hk Z U y X G.1 ρ k) (hd : decode (ab_zCB Z y) pc = .ok (ins, len)) (hr : ∃ i, rest = ab_dr i (ab_zP Z y).1) (hn : ∀ e r, rest = e :: r → e.1 = pc + len) (hE : ab_EK Z y pc 9 A x1 x2 Xs rest ins len)
    (hx : ab_i9 S G (fun S' G' => F y cuts false rest L S' G' h cn sn k) = true) : ab_Go Z U y X ρ G.1 pc S L h cn sn := by
  obtain ⟨rfl, rfl⟩ := hE
  unfold ab_i9 at hx
  split at hx
  · rename_i a0 S'
    intro H ls st locs a1 a2 a3 a4
    obtain ⟨x, st1, rfl, ⟨rfl, b3, b4⟩, b5⟩ := a3.cons
    obtain ⟨e1, e2⟩ := ab_l2i_eq b3
    obtain ⟨n1, n2⟩ := ab_nm_ok hs b4
    split at hx
    · rename_i z hz
      rw [hz] at n2
      have n3 : z = ab_sv ρ a0 := n2
      refine lv_l2i hc.1 hc.2.1 hd e1 (ab_nx hih hc hx hr hn hs hk (ab_Ext.rf _ _) H ls _ locs a1 a2 ⟨?_, b5⟩ a4)
      rw [← n3] at e2 ⊢
      exact ⟨rfl, e2, trivial⟩
    · rename_i i hi
      rw [hi] at n1 n2
      have n3 : ρ i = ab_sv ρ a0 := n2
      rcases ab_if hx with ⟨q1, q2⟩ | ⟨q1, q2⟩
      · have q3 := ab_inR_iff 0 _ _ q1
        have q4 := ab_iv_ok hs (s := .inr i) n1
        have q5 : ab_R 0 (ρ i) := ⟨Int.le_trans q3.1 q4.1, Int.le_trans q4.2 q3.2⟩
        have q6 : ab_w 0 (ab_sv ρ a0) = ρ i := by rw [ab_w_eq, ← n3, ab_wr_id q5]
        rw [q6] at e1
        exact lv_l2i hc.1 hc.2.1 hd e1 (ab_nx hih hc q2 hr hn hs hk (ab_Ext.rf _ _) H ls _ locs a1 a2 ⟨⟨rfl, q5, n1⟩, b5⟩ a4)
      · obtain ⟨s1, G', ρ', f1, f2, f3, f4, f5⟩ := ab_full_ok hs e2 q2
        exact lv_l2i hc.1 hc.2.1 hd e1 (ab_nx hih hc f1 hr hn f3 hk f2 H ls _ locs (a1.ext f2) (a2.ext f2) ⟨ab_wi e2 f4 f5, b5.ext f2⟩ a4)
  · cases hx
theorem ab_st10 (hih : ab_Ok Z U F) (hc : ab_Cx Z U y X) (hs : ab_Sat ρ G) (hk : ab_Hk Z U y X G.1 ρ k) (hd : decode (ab_zCB Z y) pc = .ok (ins, len)) (hr : ∃ i, rest = ab_dr i (ab_zP Z y).1) (hn : ∀ e r, rest = e :: r → e.1 = pc + len) (hE : ab_EK Z y pc 10 A x1 x2 Xs rest ins len)
    (hx : ab_i10 S (fun S' => F y cuts false rest L S' G h cn sn k) = true) : ab_Go Z U y X ρ G.1 pc S L h cn sn := by
  obtain ⟨rfl, rfl⟩ := hE
  unfold ab_i10 at hx
  split at hx
  · intro H ls st locs a1 a2 a3 a4
    obtain ⟨x, st1, rfl, ⟨rfl, b3, b4⟩, b5⟩ := a3.cons
    exact lv_i2d hc.1 hc.2.1 hd (ab_nx hih hc hx hr hn hs hk (ab_Ext.rf _ _) H ls _ locs a1 a2 ⟨Or.inr (Or.inl ⟨rfl, _, rfl⟩), b5⟩ a4)
  · cases hx
theorem ab_st11 (hDD : ab_DDH) (hih : ab_Ok Z U F) (hc : ab_Cx Z U y X) (hs : ab_Sat ρ G) (hk : ab_Hk Z U y X G.1 ρ k) (hd : decode (ab_zCB Z y) pc = .ok (ins, len)) (hr : ∃ i, rest = ab_dr i (ab_zP Z y).1) (hn : ∀ e r, rest = e :: r → e.1 = pc + len) (hE : ab_EK Z y pc 11 A x1 x2 Xs rest ins len)
    (hx : ab_i11 S (fun S' => F y cuts false rest L S' G h cn sn k) = true) : ab_Go Z U y X ρ G.1 pc S L h cn sn := by
  obtain ⟨rfl, rfl⟩ := hE
  unfold ab_i11 at hx
  split at hx
  · rename_i t u S'
    obtain ⟨h1, h2⟩ := ab_an hx
    obtain ⟨h3, h4⟩ := ab_an h1
    have et : t = 3 := ab_beq h3
    have eu : u = 1 := ab_beq h4
    subst et
    subst eu
    intro H ls st locs a1 a2 a3 a4
    obtain ⟨x, st1, rfl, b1, b5⟩ := a3.cons
    obtain ⟨x', st2, rfl, c1, c5⟩ := b5.cons
    have ex : x = .double 0x4020000000000000 := by
      rcases b1 with ⟨q, _⟩ | ⟨q, _⟩ | ⟨q, _⟩ | ⟨_, q⟩ | ⟨q, _⟩
      · cases q
      · cases q
      · cases q
      · exact q
      · cases q
    have ey : ∃ z : Int32, x' = .double (FP.i2d z) := by
      rcases c1 with ⟨q, _⟩ | ⟨_, q⟩ | ⟨q, _⟩ | ⟨q, _⟩ | ⟨q, _⟩
      · cases q
      · exact q
      · cases q
      · cases q
      · cases q
    obtain ⟨z, rfl⟩ := ey
    subst ex
    exact lv_ddiv hc.1 hc.2.1 hd (hDD z) (ab_nx hih hc h2 hr hn hs hk (ab_Ext.rf _ _) H ls _ locs a1 a2 ⟨Or.inr (Or.inr (Or.inr (Or.inr ⟨rfl, _, rfl⟩))), c5⟩ a4)
  · cases hx
theorem ab_cat1 {n : Nat} {v : ab_V} {x : Value} (hx : ab_rV U n ρ v x) (hw : ab_wide v = false) : x.category = 1 := by rw [hx.cat, hw]; rfl
theorem ab_cat2 {n : Nat} {v : ab_V} {x : Value} (hx : ab_rV U n ρ v x) (hw : ab_wide v = true) : x.category = 2 := by rw [hx.cat, hw]; rfl
theorem ab_st12 (hih : ab_Ok Z U F) (hc : ab_Cx Z U y X) (hs : ab_Sat ρ G) (hk : ab_Hk Z U y X G.1 ρ k) (hd : decode (ab_zCB Z y) pc = .ok (ins, len)) (hr : ∃ i, rest = ab_dr i (ab_zP Z y).1) (hn : ∀ e r, rest = e :: r → e.1 = pc + len) (hE : ab_EK Z y pc 12 A x1 x2 Xs rest ins len)
    (hx : ab_i12 S (fun S' => F y cuts false rest L S' G h cn sn k) = true) : ab_Go Z U y X ρ G.1 pc S L h cn sn := by
  obtain ⟨rfl, rfl⟩ := hE
  unfold ab_i12 at hx
  split at hx
  · rcases ab_if hx with ⟨_, q⟩ | ⟨q1, q2⟩
    · cases q
    · intro H ls st locs a1 a2 a3 a4
      obtain ⟨x, st1, rfl, b1, b5⟩ := a3.cons
      exact lv_dup hc.1 hc.2.1 hd (ab_cat1 b1 q1) (ab_nx hih hc q2 hr hn hs hk (ab_Ext.rf _ _) H ls _ locs a1 a2 ⟨b1, b1, b5⟩ a4)
  · cases hx
theorem ab_st13 (hih : ab_Ok Z U F) (hc : ab_Cx Z U y X) (hs : ab_Sat ρ G) (hk : ab_Hk Z U y X G.1 ρ k) (hd : decode (ab_zCB Z y) pc = .ok (ins, len)) (hr : ∃ i, rest = ab_dr i (ab_zP Z y).1) (hn : ∀ e r, rest = e :: r → e.1 = pc + len) (hE : ab_EK Z y pc 13 A x1 x2 Xs rest ins len)
    (hx : ab_i13 S (fun S' => F y cuts false rest L S' G h cn sn k) = true) : ab_Go Z U y X ρ G.1 pc S L h cn sn := by
  obtain ⟨rfl, rfl⟩ := hE
  unfold ab_i13 at hx
  split at hx
  · rcases ab_if hx with ⟨q1, q2⟩ | ⟨q1, q2⟩
    · intro H ls st locs a1 a2 a3 a4
      obtain ⟨x, st1, rfl, b1, b5⟩ := a3.cons
      exact lv_dup2_2 hc.1 hc.2.1 hd (ab_cat2 b1 q1) (ab_nx hih hc q2 hr hn hs hk (ab_Ext.rf _ _) H ls _ locs a1 a2 ⟨b1, b1, b5⟩ a4)
    · split at q2
      · rcases ab_if q2 with ⟨_, q⟩ | ⟨q3, q4⟩
        · cases q
        · intro H ls st locs a1 a2 a3 a4
          obtain ⟨x, st1, rfl, b1, b5⟩ := a3.cons
          obtain ⟨x', st2, rfl, c1, c5⟩ := b5.cons
          exact lv_dup2_11 hc.1 hc.2.1 hd (ab_cat1 b1 q1) (ab_cat1 c1 q3) (ab_nx hih hc q4 hr hn hs hk (ab_Ext.rf _ _) H ls _ locs a1 a2 ⟨b1, c1, b1, c1, c5⟩ a4)
      · cases q2
  · cases hx
theorem ab_st14 (hih : ab_Ok Z U F) (hc : ab_Cx Z U y X) (hs : ab_Sat ρ G) (hk : ab_Hk Z U y X G.1 ρ k) (hd : decode (ab_zCB Z y) pc = .ok (ins, len)) (hr : ∃ i, rest = ab_dr i (ab_zP Z y).1) (hn : ∀ e r, rest = e :: r → e.1 = pc + len) (hE : ab_EK Z y pc 14 A x1 x2 Xs rest ins len)
    (hx : ab_i14 S (fun S' => F y cuts false rest L S' G h cn sn k) = true) : ab_Go Z U y X ρ G.1 pc S L h cn sn := by
  obtain ⟨rfl, rfl⟩ := hE
  unfold ab_i14 at hx
  split at hx
  · rcases ab_if hx with ⟨_, q⟩ | ⟨q1, q2⟩
    · cases q
    · intro H ls st locs a1 a2 a3 a4
      obtain ⟨x, st1, rfl, b1, b5⟩ := a3.cons
      exact lv_pop hc.1 hc.2.1 hd (ab_cat1 b1 q1) (ab_nx hih hc q2 hr hn hs hk (ab_Ext.rf _ _) H ls _ locs a1 a2 b5 a4)
  · cases hx
theorem ab_st15 (hih : ab_Ok Z U F) (hc : ab_Cx Z U y X) (hs : ab_Sat ρ G) (hk : ab_Hk Z U y X G.1 ρ k) (hd : decode (ab_zCB Z y) pc = .ok (ins, len)) (hr : ∃ i, rest = ab_dr i (ab_zP Z y).1) (hn : ∀ e r, rest = e :: r → e.1 = pc + len) (hE : ab_EK Z y pc 15 A x1 x2 Xs rest ins len)
    (hx : ab_i15 S (fun S' => F y cuts false rest L S' G h cn sn k) = true) : ab_Go Z U y X ρ G.1 pc S L h cn sn := by
  obtain ⟨rfl, rfl⟩ := hE
  unfold ab_i15 at hx
  split at hx
  · obtain ⟨q1, q2⟩ := ab_an hx
    intro H ls st locs a1 a2 a3 a4
    obtain ⟨x, st1, rfl, b1, b5⟩ := a3.cons
    exact lv_pop2_2 hc.1 hc.2.1 hd (ab_cat2 b1 q1) (ab_nx hih hc q2 hr hn hs hk (ab_Ext.rf _ _) H ls _ locs a1 a2 b5 a4)
  · cases hx
/-- on at a place told by its number -/
theorem ab_jp (hih : ab_Ok Z U F) (hc : ab_Cx Z U y X) {G' : ab_G} {ρ' : Nat → Int} {L' : ab_L} {S' : List ab_V} {h' : ab_H} {cn' sn' x tgt : Nat} (hF : F y cuts false (ab_dr x (ab_zP Z y).1) L' S' G' h' cn' sn' k = true) (ht : ab_tg Z y x tgt) (hs : ab_Sat ρ' G') (hk : ab_Hk Z U y X G.1 ρ k) (hE : ab_Ext G.1 ρ G'.1 ρ') :
    ab_Go Z U y X ρ' G'.1 tgt S' L' h' cn' sn' := ab_nx hih hc hF ⟨x, rfl⟩ ht hs hk hE
theorem ab_st20 (hih : ab_Ok Z U F) (hc : ab_Cx Z U y X) (hs : ab_Sat ρ G) (hk : ab_Hk Z U y X G.1 ρ k) (hd : decode (ab_zCB Z y) pc = .ok (ins, len)) (hE : ab_EK Z y pc 20 A x1 x2 Xs rest ins len)
    (hx : F y cuts false (ab_dr x1 (ab_zP Z y).1) L S G h cn sn k = true) : ab_Go Z U y X ρ G.1 pc S L h cn sn := by
  obtain ⟨rfl, off, tgt, rfl, ht, hg⟩ := hE
  intro H ls st locs a1 a2 a3 a4
  exact lv_goto hc.1 hc.2.1 hd ht (ab_jp hih hc hx hg hs hk (ab_Ext.rf _ _) H ls st locs a1 a2 a3 a4)
theorem ab_cnd (hih : ab_Ok Z U F) (hc : ab_Cx Z U y X) {G' : ab_G} {S' : List ab_V} {x tgt pc' : Nat} {b : Bool} (hr : ∃ i, rest = ab_dr i (ab_zP Z y).1) (hn : ∀ e r, rest = e :: r → e.1 = pc') (ht : ab_tg Z y x tgt) (hF : F y cuts false (bif b then ab_dr x (ab_zP Z y).1 else rest) L S' G' h cn sn k = true) (hs : ab_Sat ρ G') (hk : ab_Hk Z U y X G.1 ρ k) (hg : G'.1 = G.1) :
    ab_Go Z U y X ρ G'.1 (bif b then tgt else pc') S' L h cn sn := by
  have hE : ab_Ext G.1 ρ G'.1 ρ := by rw [hg]; exact ab_Ext.rf _ _
  cases b
  · exact ab_nx hih hc hF hr hn hs hk hE
  · exact ab_jp hih hc hF ht hs hk hE
theorem ab_st21 (hih : ab_Ok Z U F) (hc : ab_Cx Z U y X) (hs : ab_Sat ρ G) (hk : ab_Hk Z U y X G.1 ρ k) (hd : decode (ab_zCB Z y) pc = .ok (ins, len)) (hr : ∃ i, rest = ab_dr i (ab_zP Z y).1) (hn : ∀ e r, rest = e :: r → e.1 = pc + len) (hE : ab_EK Z y pc 21 A x1 x2 Xs rest ins len)
    (hx : ab_i21 x1 S G (fun S' t G' => F y cuts false (bif t then ab_dr x2 (ab_zP Z y).1 else rest) L S' G' h cn sn k) = true) : ab_Go Z U y X ρ G.1 pc S L h cn sn := by
  obtain ⟨rfl, h5, off, tgt, rfl, ht, hg⟩ := hE
  unfold ab_i21 at hx
  split at hx
  · intro H ls st locs a1 a2 a3 a4
    obtain ⟨x, st1, rfl, ⟨rfl, b3, b4⟩, b5⟩ := a3.cons
    obtain ⟨G', g1, g2, g3⟩ := ab_br_ok (b := .inl 0) hs h5 b4 trivial hx
    have go := ab_cnd hih hc hr hn hg g1 g2 hk g3
    rw [g3] at go
    exact ab_w21 hc.1 hc.2.1 h5 hd ht b3 (go H ls _ locs a1 a2 b5 a4)
  · cases hx
theorem ab_st22 (hih : ab_Ok Z U F) (hc : ab_Cx Z U y X) (hs : ab_Sat ρ G) (hk : ab_Hk Z U y X G.1 ρ k) (hd : decode (ab_zCB Z y) pc = .ok (ins, len)) (hr : ∃ i, rest = ab_dr i (ab_zP Z y).1) (hn : ∀ e r, rest = e :: r → e.1 = pc + len) (hE : ab_EK Z y pc 22 A x1 x2 Xs rest ins len)
    (hx : ab_i22 x1 S G (fun S' t G' => F y cuts false (bif t then ab_dr x2 (ab_zP Z y).1 else rest) L S' G' h cn sn k) = true) : ab_Go Z U y X ρ G.1 pc S L h cn sn := by
  obtain ⟨rfl, h5, off, tgt, rfl, ht, hg⟩ := hE
  unfold ab_i22 at hx
  split at hx
  · intro H ls st locs a1 a2 a3 a4
    obtain ⟨x, st1, rfl, ⟨rfl, b3, b4⟩, b5⟩ := a3.cons
    obtain ⟨x', st2, rfl, ⟨rfl, c3, c4⟩, c5⟩ := b5.cons
    obtain ⟨G', g1, g2, g3⟩ := ab_br_ok hs h5 c4 b4 hx
    have go := ab_cnd hih hc hr hn hg g1 g2 hk g3
    rw [g3] at go
    exact ab_w22 hc.1 hc.2.1 h5 hd ht c3 b3 (go H ls _ locs a1 a2 c5 a4)
  · cases hx
theorem ab_st23 (hih : ab_Ok Z U F) (hc : ab_Cx Z U y X) (hs : ab_Sat ρ G) (hk : ab_Hk Z U y X G.1 ρ k) (hd : decode (ab_zCB Z y) pc = .ok (ins, len)) (hr : ∃ i, rest = ab_dr i (ab_zP Z y).1) (hE : ab_EK Z y pc 23 A x1 x2 Xs rest ins len)
    (hx : ab_i23 x1 S G (fun S' t G' => F y cuts false (bif t then ab_dr x2 (ab_zP Z y).1 else ab_dr 1 rest) L S' G' h cn sn k) = true) : ab_Go Z U y X ρ G.1 pc S L h cn sn := by
  obtain ⟨rfl, rfl, h5, off, tgt, hd2, ht, hg, hn⟩ := hE
  obtain ⟨i, hi⟩ := hr
  have hr2 : ∃ i, ab_dr 1 rest = ab_dr i (ab_zP Z y).1 := ⟨i + 1, by rw [hi]; exact ab_dr_one _ _⟩
  have hn2 : ∀ e r, ab_dr 1 rest = e :: r → e.1 = pc + 1 + 3 := fun e r q => by
    cases rest with
    | nil => cases q
    | cons e2 r2 => exact hn e2 e r (by rw [show r2 = e :: r from q])
  unfold ab_i23 at hx
  split at hx
  · intro H ls st locs a1 a2 a3 a4
    obtain ⟨x, st1, rfl, ⟨rfl, b3, b4⟩, b5⟩ := a3.cons
    obtain ⟨x', st2, rfl, ⟨rfl, c3, c4⟩, c5⟩ := b5.cons
    obtain ⟨G', g1, g2, g3⟩ := ab_br_ok hs h5 c4 b4 hx
    have go := ab_cnd hih hc hr2 hn2 hg g1 g2 hk g3
    rw [g3] at go
    exact ab_w23 hc.1 hc.2.1 h5 hd hd2 ht c3 b3 (go H ls _ locs a1 a2 c5 a4)
  · cases hx
end ST2
