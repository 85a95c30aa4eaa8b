/-! A COPY OF A RUN from a row to another one, told of the whole heap (after va_copyi of the kit). -/
section CP
variable {p : Program} {l : Launch} {e : Env} {R : Room} {s : State} {m : MethodId} {args : Array Value} {below : List Frame} {meth : Method} {c : Code} {H : Heap} {locs : List Loc} {cells slots : Nat} {Q : State → Prop}
theorem ab_i32n {z : Int} (hz : ab_R 0 z) (h0 : 0 ≤ z) : ¬ Int32.ofInt z < 0 ∧ (Int32.ofInt z).toNatClampNeg = z.toNat := by
  have et := ab_t32 hz
  refine ⟨fun q => ?_, ?_⟩
  · rw [Int32.lt_iff_toInt_lt, et] at q
    have : (0 : Int32).toInt = 0 := rfl
    omega
  · show (Int32.ofInt z).toInt.toNat = z.toNat
    rw [et]
theorem ab_copy {cc : ByteArray} {pc : Nat} {ls : Array Slot} {rest : List Value} {D : va_G} {cl : List vw_C} {dA : Nat → ClassId} (hexec : p.tables.exec = Jvm.exec) (hb : c.code = cc) (hml : ls.size = c.maxLocals) {own : String} {index : Nat} (hown : s.vm.findClass own = some m.cls)
    (hlink : (Cond.methodLink own index arraycopyName).before args s = true) (hnat : (Cond.native arraycopyName).before args s = true) (hstat : (Cond.static arraycopyName).before args s = true) (hini : (Cond.initialized "java/lang/System").before args s = true)
    (hK : va_K D cl (ab_tys dA) s) {t : Nat} (ht : t ≤ 1) {a0 a n0 n1 : Nat} {f g : Nat → Value} (hc0 : H[a0]? = some (arrV (dA t) n0 f)) (hc1 : H[a]? = some (arrV (dA t) n1 g)) (hf : ∀ j, j < n0 → ab_ty t (f j))
    {zs zd zn : Int} (rs : ab_R 0 zs) (rd : ab_R 0 zd) (rn : ab_R 0 zn) (h1 : 0 ≤ zs) (h2 : 0 ≤ zd) (h3 : 0 ≤ zn) (h4 : zs + zn ≤ n0) (h5 : zd + zn ≤ n1)
    (hframes : 1 ≤ R.frames) (hlocals : (rest.map fun v => v.category).sum + (nativeFrameWords "java/lang/System" "arraycopy" 5 + 11) ≤ R.locals) (hdg : decode cc pc = .ok (.invokestatic index, 3))
    (kk : ∀ (H1 : Heap) (L : List Loc), H1[a]? = some (arrV (dA t) n1 (va_cpy f g zs.toNat zd.toNat zn.toNat)) → H1.size = H.size → (∀ q : Nat, q ≠ a → H1[q]? = H[q]?) → (∀ z ∈ L, z.base = a) → W p l e R s m args below meth c H1 (locs ++ L) cells slots Q (F0 m (pc + 3) ls rest)) :
    W p l e R s m args below meth c H locs cells slots Q (F0 m pc ls (.int (Int32.ofInt zn) :: .int (Int32.ofInt zd) :: .ref a :: .int (Int32.ofInt zs) :: .ref a0 :: rest)) := by
  obtain ⟨s1, s2⟩ := ab_i32n rs h1
  obtain ⟨d1, d2⟩ := ab_i32n rd h2
  obtain ⟨n3, n2⟩ := ab_i32n rn h3
  have hprim : refKind (ab_et t) = false := by
    rcases (show t = 0 ∨ t = 1 by omega) with rfl | rfl <;> rfl
  intro T hT X
  obtain ⟨-, k0, hk0, cm0, hkk0⟩ := (hK.2 t _ (ab_tys_at dA (by omega))).1 n0 f
  obtain ⟨-, k1, hk1, cm1, hkk1⟩ := (hK.2 t _ (ab_tys_at dA (by omega))).1 n1 g
  obtain ⟨vm', X', step⟩ := X.arraycopy hexec hown hlink hnat hstat hini (src := a0) (dst := a) (cs := arrV (dA t) n0 f) (cd := arrV (dA t) n1 g) (srcPos := Int32.ofInt zs) (destPos := Int32.ofInt zd) (n := Int32.ofInt zn) (by rw [hT]; exact hc0) (by rw [hT]; exact hc1)
    (fun _ h => by cases h) (fun _ h => by cases h) (fun h => by cases h) (fun h => by cases h) hk0 hk1 hkk0 hkk1 (by simp [hprim]) s1 d1 n3
    (by rw [ab_t32 rs, ab_t32 rn, arrV_size]; omega)
    (by rw [ab_t32 rd, ab_t32 rn, arrV_size]; omega)
    (fun vm₁ _ i hi => by
      rw [n2] at hi
      have e : (arrV (dA t) n0 f).slots.getD ((Int32.ofInt zs).toNatClampNeg + i) .null = f (zs.toNat + i) := by
        rw [s2, Array.getD_eq_getD_getElem?, arrV_read _ _ (by omega)]
        rfl
      have hv := hf (zs.toNat + i) (by omega)
      rw [e]
      generalize f (zs.toNat + i) = x at hv ⊢
      rcases (show t = 0 ∨ t = 1 by omega) with rfl | rfl
      · obtain ⟨v, rfl⟩ := hv
        exact ⟨rfl, trivial⟩
      · obtain ⟨v, rfl⟩ := hv
        exact ⟨rfl, trivial⟩)
    (g := F0 m pc ls (.int (Int32.ofInt zn) :: .int (Int32.ofInt zd) :: .ref a :: .int (Int32.ofInt zs) :: .ref a0 :: rest)) rfl hml (rest := rest) rfl (by rw [hb]; exact hdg) hframes (by show 2 * 0 + _ + _ ≤ _; omega)
  have e1 : copied (arrV (dA t) n0 f) (arrV (dA t) n1 g) (Int32.ofInt zs) (Int32.ofInt zd) (Int32.ofInt zn) = arrV (dA t) n1 (va_cpy f g (Int32.ofInt zs).toNatClampNeg (Int32.ofInt zd).toNatClampNeg (Int32.ofInt zn).toNatClampNeg) := va_copied (fun z => z) (dA t) (dA t) f g (by rw [s2, n2]; omega)
  rw [s2, d2, n2] at e1
  rw [e1] at X' step
  have hl : a < H.size := (Array.getElem?_eq_some_iff.mp hc1).1
  generalize hC : arrV (dA t) n1 (va_cpy f g zs.toNat zd.toNat zn.toNat) = C at X' step kk
  have hheap : ((T.setVm vm').setCell a C).heap = H.setIfInBounds a C := by rw [← hT]; rfl
  obtain ⟨t9, a9, b9⟩ := kk (H.setIfInBounds a C) _ (by simp [Array.getElem?_setIfInBounds, hl]) (by simp) (fun q hq => by simp [Array.getElem?_setIfInBounds, Ne.symm hq]) (fun z hz => by
      obtain ⟨w, -, hw⟩ := List.mem_map.mp hz
      rw [← hw]) _ hheap X'
  exact ⟨t9, step t9 a9, b9⟩
end CP
