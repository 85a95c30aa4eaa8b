/-! THE WALK IS SOUND. -/
noncomputable def ab_ri (Lg : ab_L) (r : Nat) : Nat := match ab_lk Lg r with
  | some (.inl (.inl (.inr i))) => i
  | some (.inl (.inr (.inr i))) => i
  | _ => 0
noncomputable def ab_mu (Gg : ab_G) (up i : Nat) (ρ : Nat → Int) : Nat := if up = 1 then ((ab_ivI Gg i).2 - ρ i).toNat else (ρ i - (ab_ivI Gg i).1).toNat
/-- what a row's entry says -/
def ab_EA (Z : ab_ZT) (y pc cl : Nat) (A : Int) (x1 x2 : Nat) (Xs : List Nat) (rest : List ab_E) : Prop := ∃ ins len, decode (ab_zCB Z y) pc = .ok (ins, len) ∧ (∀ e r, rest = e :: r → e.1 = pc + len) ∧ ab_EK Z y pc cl A x1 x2 Xs rest ins len ∧ ab_EL Z y pc cl A x1 x2 Xs ins len ∧ ab_EM Z y pc cl A x1 x2 Xs ins len ∧
  (cl = 40 → ab_EC Z y ins len x1 x2 A.toNat (match Xs with
      | [] => 0
      | mx :: _ => mx)) ∧ (cl = 33 → ab_E33 Z y pc x1 ins len) ∧ (cl = 35 → ab_E35 Z y x1 ins len) ∧ (cl = 42 → ab_E42 Z y x1 ins len) ∧ (cl = 43 → ab_E43 Z y ins len)
/-- the tables are right -/
def ab_Tb (Z : ab_ZT) : Prop := ab_Gd Z ∧ ∀ y i pc fl cl A x1 x2 Xs rest, ab_dr i (ab_zP Z y).1 = (pc, fl, cl, A, x1, x2, Xs) :: rest → ab_EA Z y pc cl A x1 x2 Xs rest
/-- what the last part brings of the library -/
def ab_Ax : Prop := ab_MAH ∧ ab_DDH
section RN
variable {Z : ab_ZT} {U : ab_UT} {F : ab_X} {y : Nat} {X : ab_XT} {ρ : Nat → Int} {cuts : List Nat} {pc : Nat} {A : Int} {x1 x2 cl : Nat} {Xs : List Nat} {pos rest : List ab_E} {L : ab_L} {S : List ab_V} {G : ab_G} {h : ab_H} {cn sn : Nat} {k : ab_K}
theorem ab_stp (hAx : ab_Ax) (hGd : ab_Gd Z) (hih : ab_Ok Z U F) (hc : ab_Cx Z U y X) (hs : ab_Sat ρ G) (hk : ab_Hk Z U y X G.1 ρ k) (hp : ∃ i, pos = ab_dr i (ab_zP Z y).1) (hpc : ∀ e r, pos = e :: r → e.1 = pc) (hr : ∃ i, rest = ab_dr i (ab_zP Z y).1) (hE : ab_EA Z y pc cl A x1 x2 Xs rest)
    (hx : ab_step (ab_zBS Z) (ab_zP Z) (ab_zNF Z) F y cuts pos pc cl A x1 x2 Xs rest L S G h cn sn k = true) : ab_Go Z U y X ρ G.1 pc S L h cn sn := by
  obtain ⟨ins, len, hd, hn, hK, hL, hM, hC, h33, h35, h42, h43⟩ := hE
  unfold ab_step at hx
  rcases ab_if hx with ⟨c0, hx⟩ | ⟨-, hx⟩
  · unfold ab_b1 at hx
    rcases ab_if hx with ⟨c1, hx⟩ | ⟨-, hx⟩
    · rcases ab_if hx with ⟨e, hx⟩ | ⟨n3, hx⟩
      · have e := ab_beq e; subst e; exact ab_st3 hih hc hs hk hd hr hn hK hx
      rcases ab_if hx with ⟨e, hx⟩ | ⟨n0, hx⟩
      · have e := ab_beq e; subst e; exact ab_st0 hih hc hs hk hd hr hn hK hx
      rcases ab_if hx with ⟨e, hx⟩ | ⟨n4, hx⟩
      · have e := ab_beq e; subst e; exact ab_st4 hih hc hs hk hd hr hn hK hx
      rcases ab_if hx with ⟨e, hx⟩ | ⟨n1, hx⟩
      · have e := ab_beq e; subst e; exact ab_st1 hih hc hs hk hd hr hn hK hx
      rcases ab_if hx with ⟨e, hx⟩ | ⟨n5, hx⟩
      · have e := ab_beq e; subst e; exact ab_st5 hih hc hs hk hd hr hn hK hx
      have := ab_ble c1
      have := Nat.ne_of_beq_eq_false n3
      have := Nat.ne_of_beq_eq_false n0
      have := Nat.ne_of_beq_eq_false n4
      have := Nat.ne_of_beq_eq_false n1
      have := Nat.ne_of_beq_eq_false n5
      have e : cl = 2 := by omega
      subst e
      exact ab_st2 hih hc hs hk hd hr hn hK hx
    rcases ab_if hx with ⟨c1, hx⟩ | ⟨-, hx⟩
    · rcases ab_if hx with ⟨e, hx⟩ | ⟨-, hx⟩
      · have e := ab_beq e; subst e; exact ab_st6 hih hc hs hk hd hr hn hK hx
      rcases ab_if hx with ⟨e, hx⟩ | ⟨-, hx⟩
      · have e := ab_beq e; subst e; exact ab_st7 hih hc hs hk hd hr hn hK hx
      rcases ab_if hx with ⟨e, hx⟩ | ⟨-, hx⟩
      · have e := ab_beq e; subst e; exact ab_st8 hih hc hs hk hd hr hn hK hx
      rcases ab_if hx with ⟨e, hx⟩ | ⟨-, hx⟩
      · have e := ab_beq e; subst e; exact ab_st9 hih hc hs hk hd hr hn hK hx
      rcases ab_if hx with ⟨e, hx⟩ | ⟨-, hx⟩
      · have e := ab_beq e; subst e; exact ab_st10 hih hc hs hk hd hr hn hK hx
      rcases ab_if hx with ⟨e, hx⟩ | ⟨-, hx⟩
      · have e := ab_beq e; subst e; exact ab_st11 hAx.2 hih hc hs hk hd hr hn hK hx
      rcases ab_if hx with ⟨e, hx⟩ | ⟨-, hx⟩
      · have e := ab_beq e; subst e; exact ab_st12 hih hc hs hk hd hr hn hK hx
      rcases ab_if hx with ⟨e, hx⟩ | ⟨-, hx⟩
      · have e := ab_beq e; subst e; exact ab_st13 hih hc hs hk hd hr hn hK hx
      rcases ab_if hx with ⟨e, hx⟩ | ⟨-, hx⟩
      · have e := ab_beq e; subst e; exact ab_st14 hih hc hs hk hd hr hn hK hx
      rcases ab_if hx with ⟨e, hx⟩ | ⟨-, hx⟩
      · have e := ab_beq e; subst e; exact ab_st15 hih hc hs hk hd hr hn hK hx
      cases hx
    rcases ab_if hx with ⟨e, hx⟩ | ⟨-, hx⟩
    · have e := ab_beq e; subst e; exact ab_st20 hih hc hs hk hd hK hx
    rcases ab_if hx with ⟨e, hx⟩ | ⟨-, hx⟩
    · have e := ab_beq e; subst e; exact ab_st21 hih hc hs hk hd hr hn hK hx
    rcases ab_if hx with ⟨e, hx⟩ | ⟨-, hx⟩
    · have e := ab_beq e; subst e; exact ab_st22 hih hc hs hk hd hr hn hK hx
    rcases ab_if hx with ⟨e, hx⟩ | ⟨-, hx⟩
    · have e := ab_beq e; subst e; exact ab_st23 hih hc hs hk hd hr hK hx
    rcases ab_if hx with ⟨e, hx⟩ | ⟨-, hx⟩
    · have e := ab_beq e; subst e; exact ab_st24 hih hc hs hk hd hK hx
    rcases ab_if hx with ⟨e, hx⟩ | ⟨-, hx⟩
    · have e := ab_beq e; subst e; exact ab_st25 hih hc hs hk hd hK hx
    cases hx
  · unfold ab_b2 at hx
    rcases ab_if hx with ⟨c1, hx⟩ | ⟨-, hx⟩
    · rcases ab_if hx with ⟨e, hx⟩ | ⟨-, hx⟩
      · have e := ab_beq e; subst e; exact ab_st30 hih hc hs hk hd hr hn hL hx
      rcases ab_if hx with ⟨e, hx⟩ | ⟨-, hx⟩
      · have e := ab_beq e; subst e; exact ab_st31 hih hc hs hk hd hr hn hL hx
      rcases ab_if hx with ⟨e, hx⟩ | ⟨-, hx⟩
      · have e := ab_beq e; subst e; exact ab_st32 hih hc hs hk hd hr hn hL hx
      rcases ab_if hx with ⟨e, hx⟩ | ⟨-, hx⟩
      · have e := ab_beq e; subst e; exact ab_st33 hGd hc hs hk hd (h33 rfl) hx
      rcases ab_if hx with ⟨e, hx⟩ | ⟨-, hx⟩
      · have e := ab_beq e; subst e; exact ab_st34 hih hc hs hk hd hr hn hL hx
      cases hx
    rcases ab_if hx with ⟨c1, hx⟩ | ⟨-, hx⟩
    · rcases ab_if hx with ⟨e, hx⟩ | ⟨-, hx⟩
      · have e := ab_beq e; subst e; exact ab_st38 hih hc hs hk hd hr hn hp hpc hL hx
      rcases ab_if hx with ⟨e, hx⟩ | ⟨-, hx⟩
      · have e := ab_beq e; subst e; exact ab_st39 hih hc hs hk hd hr hn hL hx
      rcases ab_if hx with ⟨e, hx⟩ | ⟨-, hx⟩
      · have e := ab_beq e; subst e; exact ab_st35 hAx.1 hGd hih hc hs hk hd hr hn (h35 rfl) hx
      rcases ab_if hx with ⟨e, hx⟩ | ⟨-, hx⟩
      · have e := ab_beq e; subst e; exact ab_st36 hih hc hs hk hd hr hn hL hx
      rcases ab_if hx with ⟨e, hx⟩ | ⟨-, hx⟩
      · have e := ab_beq e; subst e; exact ab_st37 hih hc hs hk hd hr hn hL hx
      cases hx
    rcases ab_if hx with ⟨e, hx⟩ | ⟨-, hx⟩
    · have e := ab_beq e; subst e; exact ab_st40 hGd hih hc hs hk hd hr hn (hC rfl) hx
    rcases ab_if hx with ⟨e, hx⟩ | ⟨-, hx⟩
    · have e := ab_beq e; subst e; exact ab_st51 hc hs hk hd hL hx
    rcases ab_if hx with ⟨e, hx⟩ | ⟨-, hx⟩
    · have e := ab_beq e; subst e; exact ab_st52 hc hs hk hd hL hx
    rcases ab_if hx with ⟨e, hx⟩ | ⟨-, hx⟩
    · have e := ab_beq e; subst e; exact ab_st50 hc hs hk hd hL hx
    rcases ab_if hx with ⟨e, hx⟩ | ⟨-, hx⟩
    · have e := ab_beq e; subst e; exact ab_st41 hih hc hs hk hd hr hn hL hx
    rcases ab_if hx with ⟨e, hx⟩ | ⟨-, hx⟩
    · have e := ab_beq e; subst e; exact ab_st42 hGd hih hc hs hk hd hr hn (h42 rfl) hx
    rcases ab_if hx with ⟨e, hx⟩ | ⟨-, hx⟩
    · have e := ab_beq e; subst e; exact ab_st43 hGd hih hc hs hk hd hr hn (h43 rfl) hx
    rcases ab_if hx with ⟨e, hx⟩ | ⟨-, hx⟩
    · have e := ab_beq e; subst e; exact ab_st44 hih hc hs hk hd hr hn hM hx
    cases hx
theorem ab_lp (hGd : ab_Gd Z) (hih : ab_Ok Z U F) (hc : ab_Cx Z U y X) (hs : ab_Sat ρ G) (hk : ab_Hk Z U y X G.1 ρ k) (hp : ∃ i, pos = ab_dr i (ab_zP Z y).1) (hpc : ∀ e r, pos = e :: r → e.1 = pc) {Bd : ab_B} {no : Bool}
    (hx : ab_loop (ab_zBS Z) (ab_zP Z) F y cuts pos pc Bd L G h cn sn k no = true) (hno : no = true → ab_Go Z U y X ρ G.1 pc [] L h cn sn) : ab_Go Z U y X ρ G.1 pc [] L h cn sn := by
  unfold ab_loop at hx
  obtain ⟨L1, G1, hx, hI1⟩ := ab_gl_ok (ab_Inv.rf hs) hx
  obtain ⟨hg, Gg, hx, hI⟩ := ab_gf_ok hI1 hx
  generalize ab_gd Bd.2.2.2.1 L1 = Lg at hx
  rcases ab_if hx with ⟨hm, hF⟩ | ⟨-, hx⟩
  · generalize hrr : Bd.2.2.2.2.1 = r at hF
    generalize huu : Bd.2.2.2.2.2.1 = up at hF
    generalize Bd.2.2.2.2.2.2 = ex at hF
    have oth : ∀ kd a S2 L2 (G2 : ab_G) h2 cn2 sn2 ρ2, ab_lx (ab_zP Z) F y cuts ex k kd a S2 L2 G2 h2 cn2 sn2 = true → ab_Ext G.1 ρ G2.1 ρ2 → ab_Sat ρ2 G2 → ab_Lf Z U y X ρ2 kd a S2 L2 G2.1 h2 cn2 sn2 := by
      intro kd a S2 L2 G2 h2 cn2 sn2 ρ2 q e1 e2
      unfold ab_lx at q
      rcases ab_if q with ⟨q1, q⟩ | ⟨-, q⟩
      · split at q
        · rename_i x hxl
          split at q
          · cases q
          · rename_i e0 r0 hdr
            obtain ⟨q3, q4⟩ := ab_an q
            have ek : kd = 2 := ab_beq q1
            subst ek
            exact hih y cuts false (e0 :: r0) L2 S2 G2 h2 cn2 sn2 k q4 ⟨x, hdr.symm⟩ X ρ2 hc e2 (hk.ext e1) a (fun e r he => by
              cases he
              exact ab_beq q3)
        · exact hk kd a S2 L2 G2 h2 cn2 sn2 ρ2 q e1 e2
      · exact hk kd a S2 L2 G2 h2 cn2 sn2 ρ2 q e1 e2
    have claim : ∀ (m : Nat) (ρ1 : Nat → Int) (H : Heap) (ls : Array Slot) (locs : List Loc), ab_mu Gg up (ab_ri Lg r) ρ1 ≤ m → ab_In U.1.1 U.1.2 U.2.1 (ab_zNF Z) (ab_zFT Z) (ab_zBS Z) U.2.2.1 U.2.2.2 (ab_zML Z y) G.1 ρ Gg Lg hg ρ1 ls H → va_S (ab_nA U) (ab_xs X).heap H locs → ab_W X H locs cn sn (F0 (ab_xm X) pc ls []) := by
      intro m
      induction m with
      | zero =>
        intro ρ1 H ls locs hmu hIn hV
        refine hih y (pc :: ab_exs ex cuts) true pos Lg [] Gg hg cn sn _ hF hp X ρ1 hc hIn.2.1 ?_ pc hpc H ls [] locs hIn.2.2.2 hIn.2.2.1 trivial hV
        intro kd a S2 L2 G2 h2 cn2 sn2 ρ2 hkk hE2 hs2
        rcases ab_if hkk with ⟨q1, q2⟩ | ⟨-, q2⟩
        · obtain ⟨q3, q4⟩ := ab_an q1
          obtain ⟨q5, q6⟩ := ab_an q2
          obtain ⟨q7, q8⟩ := ab_an q5
          obtain ⟨q9, q10⟩ := ab_an q8
          obtain ⟨q11, q12⟩ := ab_an q6
          have e1 : kd = 2 := ab_beq q3
          have e2 : a = pc := ab_beq q4
          have e3 : cn2 = cn := ab_beq q9
          have e4 : sn2 = sn := ab_beq q10
          subst e1; subst e2; subst e3; subst e4
          intro H' ls' st' locs' b1 b2 b3 b4
          exfalso
          obtain ⟨ρ3, hIn3, r1, r2⟩ := ab_mt_ok hGd.2.2.2 hs hI hs2 (hIn.1.tr hE2) q11 b2 b1
          obtain ⟨i, j, hij, hup⟩ := ab_rk_ok hs2 (fun i hi => by
            rcases hi with hi | hi
            · obtain ⟨x, -, hxv⟩ := hIn.2.2.1.get hi
              exact Nat.lt_of_lt_of_le hxv.2.2 hE2.1
            · obtain ⟨x, -, hxv⟩ := hIn.2.2.1.get hi
              exact Nat.lt_of_lt_of_le hxv.2.2 hE2.1) (fun s9 hs9 => by
            rcases hs9 with hs9 | hs9
            · obtain ⟨x, -, hxv⟩ := b2.get hs9
              exact hxv.2.2
            · obtain ⟨x, -, hxv⟩ := b2.get hs9
              exact hxv.2.2) q12
          have hlt : i < Gg.1 := by
            rcases hij with ⟨hi, -⟩ | ⟨hi, -⟩
            · obtain ⟨x, -, hxv⟩ := hIn.2.2.1.get hi
              exact hxv.2.2
            · obtain ⟨x, -, hxv⟩ := hIn.2.2.1.get hi
              exact hxv.2.2
          have hri : ab_ri Lg r = i := by
            unfold ab_ri
            rcases hij with ⟨hi, -⟩ | ⟨hi, -⟩ <;> rw [hi]
          have e5 : ρ3 i = ab_sv ρ2 j := by
            rcases hij with ⟨h5, h6⟩ | ⟨h5, h6⟩
            · exact r1 r i j h5 h6
            · exact r2 r i j h5 h6
          have e6 : ρ2 i = ρ1 i := hE2.2 i hlt
          have v1 : (ab_ivI Gg i).1 ≤ ρ1 i ∧ ρ1 i ≤ (ab_ivI Gg i).2 := ab_iv_ok hIn.2.1 (s := .inr i) hlt
          have v3 : (ab_ivI Gg i).1 ≤ ρ3 i ∧ ρ3 i ≤ (ab_ivI Gg i).2 := ab_iv_ok hIn3.2.1 (s := .inr i) hlt
          rw [hri] at hmu
          unfold ab_mu at hmu
          rcases hup with ⟨u1, u2⟩ | ⟨u1, u2⟩
          · rw [if_pos u1] at hmu
            omega
          · rw [if_neg u1] at hmu
            omega
        · exact oth kd a S2 L2 G2 h2 cn2 sn2 ρ2 q2 (hIn.1.tr hE2) hs2
      | succ m ih =>
        intro ρ1 H ls locs hmu hIn hV
        refine hih y (pc :: ab_exs ex cuts) true pos Lg [] Gg hg cn sn _ hF hp X ρ1 hc hIn.2.1 ?_ pc hpc H ls [] locs hIn.2.2.2 hIn.2.2.1 trivial hV
        intro kd a S2 L2 G2 h2 cn2 sn2 ρ2 hkk hE2 hs2
        rcases ab_if hkk with ⟨q1, q2⟩ | ⟨-, q2⟩
        · obtain ⟨q3, q4⟩ := ab_an q1
          obtain ⟨q5, q6⟩ := ab_an q2
          obtain ⟨q7, q8⟩ := ab_an q5
          obtain ⟨q9, q10⟩ := ab_an q8
          obtain ⟨q11, q12⟩ := ab_an q6
          have e1 : kd = 2 := ab_beq q3
          have e2 : a = pc := ab_beq q4
          have e3 : cn2 = cn := ab_beq q9
          have e4 : sn2 = sn := ab_beq q10
          subst e1; subst e2; subst e3; subst e4
          intro H' ls' st' locs' b1 b2 b3 b4
          have eS : S2 = [] := List.isEmpty_iff.mp q7
          subst eS
          have est := b3.nil
          subst est
          obtain ⟨ρ3, hIn3, r1, r2⟩ := ab_mt_ok hGd.2.2.2 hs hI hs2 (hIn.1.tr hE2) q11 b2 b1
          obtain ⟨i, j, hij, hup⟩ := ab_rk_ok hs2 (fun i hi => by
            rcases hi with hi | hi
            · obtain ⟨x, -, hxv⟩ := hIn.2.2.1.get hi
              exact Nat.lt_of_lt_of_le hxv.2.2 hE2.1
            · obtain ⟨x, -, hxv⟩ := hIn.2.2.1.get hi
              exact Nat.lt_of_lt_of_le hxv.2.2 hE2.1) (fun s9 hs9 => by
            rcases hs9 with hs9 | hs9
            · obtain ⟨x, -, hxv⟩ := b2.get hs9
              exact hxv.2.2
            · obtain ⟨x, -, hxv⟩ := b2.get hs9
              exact hxv.2.2) q12
          have hlt : i < Gg.1 := by
            rcases hij with ⟨hi, -⟩ | ⟨hi, -⟩
            · obtain ⟨x, -, hxv⟩ := hIn.2.2.1.get hi
              exact hxv.2.2
            · obtain ⟨x, -, hxv⟩ := hIn.2.2.1.get hi
              exact hxv.2.2
          have hri : ab_ri Lg r = i := by
            unfold ab_ri
            rcases hij with ⟨hi, -⟩ | ⟨hi, -⟩ <;> rw [hi]
          have e5 : ρ3 i = ab_sv ρ2 j := by
            rcases hij with ⟨h5, h6⟩ | ⟨h5, h6⟩
            · exact r1 r i j h5 h6
            · exact r2 r i j h5 h6
          have e6 : ρ2 i = ρ1 i := hE2.2 i hlt
          have v1 : (ab_ivI Gg i).1 ≤ ρ1 i ∧ ρ1 i ≤ (ab_ivI Gg i).2 := ab_iv_ok hIn.2.1 (s := .inr i) hlt
          have v3 : (ab_ivI Gg i).1 ≤ ρ3 i ∧ ρ3 i ≤ (ab_ivI Gg i).2 := ab_iv_ok hIn3.2.1 (s := .inr i) hlt
          refine ih ρ3 H' ls' locs' ?_ hIn3 b4
          rw [hri] at hmu ⊢
          unfold ab_mu at hmu ⊢
          rcases hup with ⟨u1, u2⟩ | ⟨u1, u2⟩
          · rw [if_pos u1] at hmu ⊢
            omega
          · rw [if_neg u1] at hmu ⊢
            omega
        · exact oth kd a S2 L2 G2 h2 cn2 sn2 ρ2 q2 (hIn.1.tr hE2) hs2
    intro H ls st locs a1 a2 a3 a4
    have est := a3.nil
    subst est
    obtain ⟨ρ1, hIn, -, -⟩ := ab_mt_ok hGd.2.2.2 hs hI hs (ab_Ext.rf _ _) hm a2 a1
    exact claim _ ρ1 H ls locs (Nat.le_refl _) hIn a4
  · exact hno hx
theorem ab_bd_ok (hAx : ab_Ax) (hT : ab_Tb Z) (hih : ab_Ok Z U F) : ab_Ok Z U (ab_body (ab_zBS Z) (ab_zP Z) (ab_zNF Z) (ab_zHS Z) F) := by
  intro y cuts fst pos L S G h cn sn k hx hp X ρ hc hs hk pc hpc
  cases pos with
  | nil => cases hx
  | cons e rest =>
    obtain ⟨pc0, fl, cl, A, x1, x2, Xs⟩ := e
    have epc : pc0 = pc := hpc _ _ rfl
    subst epc
    obtain ⟨i, hi⟩ := hp
    have hEA := hT.2 y i pc0 fl cl A x1 x2 Xs rest hi.symm
    have hr : ∃ i, rest = ab_dr i (ab_zP Z y).1 := ⟨i + 1, (ab_dr_succ i _ _ _ hi.symm).symm⟩
    have stp : ∀ {S : List ab_V}, ab_step (ab_zBS Z) (ab_zP Z) (ab_zNF Z) F y cuts ((pc0, fl, cl, A, x1, x2, Xs) :: rest) pc0 cl A x1 x2 Xs rest L S G h cn sn k = true → ab_Go Z U y X ρ G.1 pc0 S L h cn sn := fun q =>
      ab_stp hAx hT.1 hih hc hs hk ⟨i, hi⟩ hpc hr hEA q
    unfold ab_body at hx
    dsimp only at hx
    have hx' := hx
    rcases ab_if hx' with ⟨-, q⟩ | ⟨-, q⟩
    · exact stp q
    · rcases ab_if q with ⟨-, q⟩ | ⟨-, q⟩
      · exact hk 2 pc0 S L G h cn sn ρ q (ab_Ext.rf _ _) hs
      · split at q
        · exact ab_lp hT.1 hih hc hs hk ⟨i, hi⟩ hpc q stp
        · exact stp q
theorem ab_run_ok (hAx : ab_Ax) (hT : ab_Tb Z) : ∀ n, ab_Ok Z U (ab_run (ab_zBS Z) (ab_zP Z) (ab_zNF Z) (ab_zHS Z) n)
  | 0 => fun y cuts fst pos L S G h cn sn k hx => by cases hx
  | n + 1 => ab_bd_ok hAx hT (ab_run_ok hAx hT n)
end RN
