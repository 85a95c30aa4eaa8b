/-! THE START: what the Statement gives of it, in the walker s words. -/
theorem abOV0 : Cond.arrayOver (.array .int) ∈ tables_1 := ab_im1 52 rfl
theorem abOV1 : Cond.arrayOver (.array .long) ∈ tables_1 := ab_im1 115 rfl
theorem abLS0 : Cond.laysStatic Bundle.tN "UNASSIGNED_STACK" Bundle.steD ∈ tables_1 := ab_im6 18 rfl
theorem abLS1 : Cond.laysStatic Bundle.tN "SUPPRESSED_SENTINEL" Bundle.listD ∈ tables_1 := ab_im6 20 rfl
theorem abIT : Cond.initialized Bundle.tN ∈ tables_1 := ab_im1 26 rfl
theorem abNWot : ∀ w ∈ abNW, w.onTables = true := fun w hw => by
  rcases List.mem_append.mp hw with h | h
  · obtain ⟨q, hq, rfl⟩ := List.mem_map.mp h
    rfl
  · rcases List.mem_append.mp h with h | h
    · rcases List.mem_cons.mp h with rfl | h
      · rfl
      rcases List.mem_cons.mp h with rfl | h
      · rfl
      rcases List.mem_cons.mp h with rfl | h
      · rfl
      cases h
    · obtain ⟨x, hx, rfl⟩ := List.mem_map.mp h
      rfl
theorem abNWm : ∀ w ∈ abNW, ∀ s U : State, s.WarmedH U.vm → va_Nw w s → va_Nw w U := fun w hw s U hW hz => by
  rcases List.mem_append.mp hw with h | h
  · obtain ⟨q, hq, rfl⟩ := List.mem_map.mp h
    exact va_Nw.warmM hW hz
  · rcases List.mem_append.mp h with h | h
    · rcases List.mem_cons.mp h with rfl | h
      · exact va_Nw.warmC hW hz
      rcases List.mem_cons.mp h with rfl | h
      · exact va_Nw.warmC hW hz
      rcases List.mem_cons.mp h with rfl | h
      · exact va_Nw.warmC hW hz
      cases h
    · obtain ⟨x, hx, rfl⟩ := List.mem_map.mp h
      exact va_Nw.warmD hW hz
theorem ab_sK {s : State} {A : Array Value} (hts : ∀ w ∈ lw_tbl, w.before A s = true) (cS : ClassId) : ∃ (D : va_G) (dA : Nat → ClassId), dA 8 = cS ∧ va_K D abcl (ab_tys dA) s := by
  have hTW : ∀ w ∈ abTW, w.before A s = true := fun w hw => hts w (List.mem_filter.mp hw).1
  have hT : ∀ w ∈ tables_1, w.before A s = true := fun w hw => hts w (List.mem_append_right _ hw)
  have h1 : ∀ c, ∃ (cC : ClassId) (iS : Nat → Nat), c < 23 → u_Kn s (abCT c).1 (abCT c).2 (abNF c) cC iS := fun c => by
    by_cases hc : c < 23
    · obtain ⟨cC, iS, h⟩ := u_known (C := (abCT c).1) (T := (abCT c).2) (N := abNF c) (n := abNF c) hTW (abCL c hc).2.1 (hTW _ (abIn c hc).1)
      exact ⟨cC, iS, fun _ => h⟩
    · exact ⟨0, fun _ => 0, fun h => absurd h hc⟩
  have h2 : ∀ t, t ≤ 2 → ∃ cA, ArrOfT s cA (ab_et t) ∧ s.vm.findClass ("[" ++ (ab_et t).toString) = some cA := fun t ht => by
    obtain ⟨cA, k, comp, q1, q2, q3⟩ := Cond.arrayClass_spec (hTW _ (abAC t ht))
    exact ⟨cA, fun N z => ⟨(fun q h => by cases h), k, q2, comp, q3⟩, q1⟩
  have h3 : ∀ ty : FieldType, (Cond.arrayOver (.array ty)).before A s = true → ∃ cA, ArrOfT s cA (.array ty) ∧ s.vm.findClass ("[" ++ (FieldType.array ty).toString) = some cA := fun ty h => by
    obtain ⟨comp, cA, k, q1, -, q2, q3, q4⟩ := ab_overA h
    exact ⟨cA, fun N z => ⟨(fun q h => by cases h), k, q2, comp, q3⟩, q4⟩
  obtain ⟨a0, b0⟩ := h2 0 (by decide)
  obtain ⟨a1, b1⟩ := h2 1 (by decide)
  obtain ⟨a2, b2⟩ := h2 2 (by decide)
  obtain ⟨a3, b3⟩ := h3 .int (hT _ abOV0)
  obtain ⟨a4, b4⟩ := h3 .long (hT _ abOV1)
  refine ⟨(fun c => Classical.choose (h1 c), fun c => Classical.choose (Classical.choose_spec (h1 c))), fun t => match t with
    | 0 => a0
    | 1 => a1
    | 2 => a2
    | 3 => a3
    | 4 => a4
    | _ => cS, rfl, fun c q hq => ?_, fun k q hk => ?_⟩
  · have hc : c < 23 := by
      have h := (List.getElem?_eq_some_iff.mp hq).1
      have e : abcl.length = 23 := rfl
      rw [e] at h
      exact h
    have h := (abCL c hc).1
    rw [hq] at h
    cases h
    exact Classical.choose_spec (Classical.choose_spec (h1 c)) hc
  · match k, hk with
    | 0, hk => cases hk; exact b0
    | 1, hk => cases hk; exact b1
    | 2, hk => cases hk; exact b2
    | 3, hk => cases hk; exact b3
    | 4, hk => cases hk; exact b4
    | k + 5, hk => cases hk
theorem ab_sX {s : State} {A : Array Value} (hgv : (Jvm.Cond.and given_1 narrow_1).before A s = true) : ∀ q ∈ abNX, va_Nc q.1 q.2 s := by
  have hs := flat_of_before _ hgv
  intro q hq
  rcases List.mem_cons.mp hq with rfl | hq
  · exact va_Nc.of (hs _ (by decide +kernel))
  rcases List.mem_cons.mp hq with rfl | hq
  · exact va_Nc.of (hs _ (by decide +kernel))
  rcases List.mem_cons.mp hq with rfl | hq
  · exact va_Nc.of (hs _ (by decide +kernel))
  cases hq
theorem ab_sZ {s : State} {A : Array Value} (hgv : (Jvm.Cond.and given_1 narrow_1).before A s = true) : (Cond.isRef (.static Bundle.tN "UNASSIGNED_STACK" Bundle.steD)).before A s = true ∧ (Cond.isRef (.static Bundle.tN "SUPPRESSED_SENTINEL" Bundle.listD)).before A s = true := by
  have hs := flat_of_before _ hgv
  exact ⟨hs _ (by decide +kernel), hs _ (by decide +kernel)⟩
/-- what holds of the launch at the law's entry -/
theorem ab_sKH {s : State} {b L : Nat} {xs : Nat → Int32} (HS : Nat → Nat → Option ab_B) (BS : Nat → Option ab_C) (hts : ∀ w ∈ lw_tbl, w.before #[Value.ref b] s = true) (hgv : (Jvm.Cond.and given_1 narrow_1).before #[Value.ref b] s = true) {scr : Cell} (hs : s.isArrayOf scr .int) :
    ∃ U : ab_UT, ab_KH (abZ HS BS) U s ∧ U.2.1 8 = scr.cls ∧ U.2.2.1 = b ∧ U.2.2.2 = s.heap.size := by
  obtain ⟨D, dA, e8, hK⟩ := ab_sK hts scr.cls
  have hT : ∀ w ∈ tables_1, w.before #[Value.ref b] s = true := fun w hw => hts w (List.mem_append_right _ hw)
  have hA : ∀ a : Nat, a < s.heap.size → ¬ ab_nA (D, dA, b, s.heap.size) a := fun a h h2 => Nat.not_le.mpr h h2
  obtain ⟨z0, z1⟩ := ab_sZ hgv
  obtain ⟨-, k, hk, comp, hkind⟩ := hs
  exact ⟨(D, dA, b, s.heap.size), ⟨hK, fun w hw => va_Nw.of (abNWot w hw) (hT w (abNWt w hw)), hT _ abOV1, ab_sX hgv, vx_Zqof (hT _ abLS0) (hT _ abIT) z0 hA, vx_Zqof (hT _ abLS1) (hT _ abIT) z1 hA, hT _ abOV0, k, by show s.vm.classes[dA 8]? = some k; rw [e8]; exact hk, comp, hkind⟩, e8, rfl, rfl⟩
/-- the script's row, and its eight numbers -/
def abSC (L : Nat) : ab_C := .inr (8, L, some (.inl (.inl (.inl 0)), [(0, .inl (.inl (.inr 0))), (1, .inl (.inl (.inr 1))), (2, .inl (.inl (.inr 2))), (3, .inl (.inl (.inr 3))), (4, .inl (.inl (.inr 4))), (5, .inl (.inl (.inr 5))), (6, .inl (.inl (.inr 6))), (7, .inl (.inl (.inr 7)))]))
def abG0 : ab_G := (8, [(0, (-2147483648, 2147483647)), (1, (-2147483648, 2147483647)), (2, (-2147483648, 2147483647)), (3, (-2147483648, 2147483647)), (4, (-2147483648, 2147483647)), (5, (-2147483648, 2147483647)), (6, (-2147483648, 2147483647)), (7, (-2147483648, 2147483647))], [], [])
theorem abG0_sat (xs : Nat → Int32) : ab_Sat (fun j => (xs j).toInt) abG0 := by
  refine ⟨fun i p h => ?_, fun i hi => ?_, fun f hf => absurd hf List.not_mem_nil, fun d hd => absurd hd List.not_mem_nil⟩
  · have hm := ab_lk_mem h
    have hp : i < 8 ∧ p = (-2147483648, 2147483647) := by
      have hm' : (i, p) ∈ [((0 : Nat), ((-2147483648 : Int), (2147483647 : Int))), (1, (-2147483648, 2147483647)), (2, (-2147483648, 2147483647)), (3, (-2147483648, 2147483647)), (4, (-2147483648, 2147483647)), (5, (-2147483648, 2147483647)), (6, (-2147483648, 2147483647)), (7, (-2147483648, 2147483647))] := hm
      simp only [List.mem_cons, Prod.mk.injEq, List.not_mem_nil, or_false] at hm'
      rcases hm' with h | h | h | h | h | h | h | h <;> exact ⟨by omega, h.2⟩
    obtain ⟨h1, rfl⟩ := hp
    have h2 := Int32.le_toInt (xs i)
    have h3 := Int32.toInt_lt (xs i)
    refine ⟨h1, ?_, ?_⟩
    · show (-2147483648 : Int) ≤ (xs i).toInt
      omega
    · show (xs i).toInt ≤ (2147483647 : Int)
      omega
  · have hi : i < 8 := hi
    match i, hi with
    | 0, _ => exact ⟨_, rfl⟩
    | 1, _ => exact ⟨_, rfl⟩
    | 2, _ => exact ⟨_, rfl⟩
    | 3, _ => exact ⟨_, rfl⟩
    | 4, _ => exact ⟨_, rfl⟩
    | 5, _ => exact ⟨_, rfl⟩
    | 6, _ => exact ⟨_, rfl⟩
    | 7, _ => exact ⟨_, rfl⟩
    | _ + 8, h => omega
theorem abSC_el {b B L : Nat} {xs : Nat → Int32} (hL : L ≤ 8) {j : Nat} (hj : j < L) : ab_RV b B 8 (fun j => (xs j).toInt) (ab_el (.inl (.inl (.inl 0))) [(0, .inl (.inl (.inr 0))), (1, .inl (.inl (.inr 1))), (2, .inl (.inl (.inr 2))), (3, .inl (.inl (.inr 3))), (4, .inl (.inl (.inr 4))), (5, .inl (.inl (.inr 5))), (6, .inl (.inl (.inr 6))), (7, .inl (.inl (.inr 7)))] j) (.int (xs j)) := by
  have go : ∀ i, i < 8 → ab_RV b B 8 (fun j => (xs j).toInt) (.inl (.inl (.inr i))) (.int (xs i)) := fun i hi => ⟨by
    show Value.int (xs i) = .int (Int32.ofInt (xs i).toInt)
    rw [Int32.ofInt_toInt], ab_R32 _, hi⟩
  have hj8 : j < 8 := by omega
  match j, hj8 with
  | 0, _ => exact go 0 (by omega)
  | 1, _ => exact go 1 (by omega)
  | 2, _ => exact go 2 (by omega)
  | 3, _ => exact go 3 (by omega)
  | 4, _ => exact go 4 (by omega)
  | 5, _ => exact go 5 (by omega)
  | 6, _ => exact go 6 (by omega)
  | 7, _ => exact go 7 (by omega)
  | _ + 8, h => omega
theorem ab_sSC {U : ab_UT} {Z : ab_ZT} {L : Nat} {xs : Nat → Int32} (hL : L ≤ 8) {scr : Cell} (h8 : U.2.1 8 = scr.cls) (hv : scr.vm ≠ .unknown) (hst : ∀ k, scr.vm ≠ .statics k) (hsz : scr.slots.size = L) (hsl : ∀ j : Nat, j < L → scr.slots[j]? = some (.int (xs j))) : ab_rC Z U 8 (fun j => (xs j).toInt) (abSC L) (some scr) := by
  refine Or.inl ⟨by decide, ?_⟩
  unfold ab_RW
  rw [if_pos rfl]
  exact ⟨scr, rfl, h8.symm, hv, hst, hsz, by omega, fun j hj => ⟨xs j, hsl j hj, abSC_el hL hj⟩⟩
