/-! THE TABLES, by program: the words that the rows rest on, by their places. -/
def abTW : List Cond := lw_tbl.filter goodWord
theorem abTwm {w : Cond} (h : w ∈ tables_1) (hg : goodWord w = true) : w ∈ abTW := List.mem_filter.mpr ⟨List.mem_append_right _ h, hg⟩
theorem ab_im1 {w : Cond} (i : Nat) (h : tables_1_1[i]? = some w) : w ∈ tables_1 := by
  unfold tables_1
  exact List.mem_append_left _ (List.mem_of_getElem? h)
theorem ab_in1 {w : Cond} (i : Nat) (h : tables_1_1[i]? = some w) (hg : goodWord w = true) : w ∈ abTW := abTwm (ab_im1 i h) hg
theorem ab_im2 {w : Cond} (i : Nat) (h : tables_1_2[i]? = some w) : w ∈ tables_1 := by
  unfold tables_1
  exact List.mem_append_right _ (List.mem_append_left _ (List.mem_of_getElem? h))
theorem ab_in2 {w : Cond} (i : Nat) (h : tables_1_2[i]? = some w) (hg : goodWord w = true) : w ∈ abTW := abTwm (ab_im2 i h) hg
theorem ab_im3 {w : Cond} (i : Nat) (h : tables_1_3[i]? = some w) : w ∈ tables_1 := by
  unfold tables_1
  exact List.mem_append_right _ (List.mem_append_right _ (List.mem_append_left _ (List.mem_of_getElem? h)))
theorem ab_in3 {w : Cond} (i : Nat) (h : tables_1_3[i]? = some w) (hg : goodWord w = true) : w ∈ abTW := abTwm (ab_im3 i h) hg
theorem ab_im4 {w : Cond} (i : Nat) (h : tables_1_4[i]? = some w) : w ∈ tables_1 := by
  unfold tables_1
  exact List.mem_append_right _ (List.mem_append_right _ (List.mem_append_right _ (List.mem_append_left _ (List.mem_of_getElem? h))))
theorem ab_in4 {w : Cond} (i : Nat) (h : tables_1_4[i]? = some w) (hg : goodWord w = true) : w ∈ abTW := abTwm (ab_im4 i h) hg
theorem ab_im5 {w : Cond} (i : Nat) (h : tables_1_5[i]? = some w) : w ∈ tables_1 := by
  unfold tables_1
  exact List.mem_append_right _ (List.mem_append_right _ (List.mem_append_right _ (List.mem_append_right _ (List.mem_append_left _ (List.mem_of_getElem? h)))))
theorem ab_in5 {w : Cond} (i : Nat) (h : tables_1_5[i]? = some w) (hg : goodWord w = true) : w ∈ abTW := abTwm (ab_im5 i h) hg
theorem ab_im6 {w : Cond} (i : Nat) (h : tables_1_6[i]? = some w) : w ∈ tables_1 := by
  unfold tables_1
  exact List.mem_append_right _ (List.mem_append_right _ (List.mem_append_right _ (List.mem_append_right _ (List.mem_append_right _ (List.mem_append_left _ (List.mem_of_getElem? h))))))
theorem ab_in6 {w : Cond} (i : Nat) (h : tables_1_6[i]? = some w) (hg : goodWord w = true) : w ∈ abTW := abTwm (ab_im6 i h) hg
theorem ab_im7 {w : Cond} (i : Nat) (h : tables_1_7[i]? = some w) : w ∈ tables_1 := by
  unfold tables_1
  exact List.mem_append_right _ (List.mem_append_right _ (List.mem_append_right _ (List.mem_append_right _ (List.mem_append_right _ (List.mem_append_right _ (List.mem_append_left _ (List.mem_of_getElem? h)))))))
theorem ab_in7 {w : Cond} (i : Nat) (h : tables_1_7[i]? = some w) (hg : goodWord w = true) : w ∈ abTW := abTwm (ab_im7 i h) hg
theorem ab_im8 {w : Cond} (i : Nat) (h : tables_1_8[i]? = some w) : w ∈ tables_1 := by
  unfold tables_1
  exact List.mem_append_right _ (List.mem_append_right _ (List.mem_append_right _ (List.mem_append_right _ (List.mem_append_right _ (List.mem_append_right _ (List.mem_append_right _ (List.mem_append_left _ (List.mem_of_getElem? h))))))))
theorem ab_in8 {w : Cond} (i : Nat) (h : tables_1_8[i]? = some w) (hg : goodWord w = true) : w ∈ abTW := abTwm (ab_im8 i h) hg
theorem ab_im9 {w : Cond} (i : Nat) (h : tables_1_9[i]? = some w) : w ∈ tables_1 := by
  unfold tables_1
  exact List.mem_append_right _ (List.mem_append_right _ (List.mem_append_right _ (List.mem_append_right _ (List.mem_append_right _ (List.mem_append_right _ (List.mem_append_right _ (List.mem_append_right _ (List.mem_append_left _ (List.mem_of_getElem? h)))))))))
theorem ab_in9 {w : Cond} (i : Nat) (h : tables_1_9[i]? = some w) (hg : goodWord w = true) : w ∈ abTW := abTwm (ab_im9 i h) hg
theorem ab_im10 {w : Cond} (i : Nat) (h : tables_1_10[i]? = some w) : w ∈ tables_1 := by
  unfold tables_1
  exact List.mem_append_right _ (List.mem_append_right _ (List.mem_append_right _ (List.mem_append_right _ (List.mem_append_right _ (List.mem_append_right _ (List.mem_append_right _ (List.mem_append_right _ (List.mem_append_right _ (List.mem_append_left _ (List.mem_of_getElem? h))))))))))
theorem ab_in10 {w : Cond} (i : Nat) (h : tables_1_10[i]? = some w) (hg : goodWord w = true) : w ∈ abTW := abTwm (ab_im10 i h) hg
theorem ab_im11 {w : Cond} (i : Nat) (h : tables_1_11[i]? = some w) : w ∈ tables_1 := by
  unfold tables_1
  exact List.mem_append_right _ (List.mem_append_right _ (List.mem_append_right _ (List.mem_append_right _ (List.mem_append_right _ (List.mem_append_right _ (List.mem_append_right _ (List.mem_append_right _ (List.mem_append_right _ (List.mem_append_right _ (List.mem_append_left _ (List.mem_of_getElem? h)))))))))))
theorem ab_in11 {w : Cond} (i : Nat) (h : tables_1_11[i]? = some w) (hg : goodWord w = true) : w ∈ abTW := abTwm (ab_im11 i h) hg
theorem ab_im12 {w : Cond} (i : Nat) (h : tables_1_12[i]? = some w) : w ∈ tables_1 := by
  unfold tables_1
  exact List.mem_append_right _ (List.mem_append_right _ (List.mem_append_right _ (List.mem_append_right _ (List.mem_append_right _ (List.mem_append_right _ (List.mem_append_right _ (List.mem_append_right _ (List.mem_append_right _ (List.mem_append_right _ (List.mem_append_right _ (List.mem_append_left _ (List.mem_of_getElem? h))))))))))))
theorem ab_in12 {w : Cond} (i : Nat) (h : tables_1_12[i]? = some w) (hg : goodWord w = true) : w ∈ abTW := abTwm (ab_im12 i h) hg
theorem ab_im13 {w : Cond} (i : Nat) (h : tables_1_13[i]? = some w) : w ∈ tables_1 := by
  unfold tables_1
  exact List.mem_append_right _ (List.mem_append_right _ (List.mem_append_right _ (List.mem_append_right _ (List.mem_append_right _ (List.mem_append_right _ (List.mem_append_right _ (List.mem_append_right _ (List.mem_append_right _ (List.mem_append_right _ (List.mem_append_right _ (List.mem_append_right _ (List.mem_append_left _ (List.mem_of_getElem? h)))))))))))))
theorem ab_in13 {w : Cond} (i : Nat) (h : tables_1_13[i]? = some w) (hg : goodWord w = true) : w ∈ abTW := abTwm (ab_im13 i h) hg
theorem ab_im14 {w : Cond} (i : Nat) (h : tables_1_14[i]? = some w) : w ∈ tables_1 := by
  unfold tables_1
  exact List.mem_append_right _ (List.mem_append_right _ (List.mem_append_right _ (List.mem_append_right _ (List.mem_append_right _ (List.mem_append_right _ (List.mem_append_right _ (List.mem_append_right _ (List.mem_append_right _ (List.mem_append_right _ (List.mem_append_right _ (List.mem_append_right _ (List.mem_append_right _ (List.mem_append_left _ (List.mem_of_getElem? h))))))))))))))
theorem ab_in14 {w : Cond} (i : Nat) (h : tables_1_14[i]? = some w) (hg : goodWord w = true) : w ∈ abTW := abTwm (ab_im14 i h) hg
theorem ab_im15 {w : Cond} (i : Nat) (h : tables_1_15[i]? = some w) : w ∈ tables_1 := by
  unfold tables_1
  exact List.mem_append_right _ (List.mem_append_right _ (List.mem_append_right _ (List.mem_append_right _ (List.mem_append_right _ (List.mem_append_right _ (List.mem_append_right _ (List.mem_append_right _ (List.mem_append_right _ (List.mem_append_right _ (List.mem_append_right _ (List.mem_append_right _ (List.mem_append_right _ (List.mem_append_right _ (List.mem_append_left _ (List.mem_of_getElem? h)))))))))))))))
theorem ab_in15 {w : Cond} (i : Nat) (h : tables_1_15[i]? = some w) (hg : goodWord w = true) : w ∈ abTW := abTwm (ab_im15 i h) hg
theorem ab_im16 {w : Cond} (i : Nat) (h : tables_1_16[i]? = some w) : w ∈ tables_1 := by
  unfold tables_1
  exact List.mem_append_right _ (List.mem_append_right _ (List.mem_append_right _ (List.mem_append_right _ (List.mem_append_right _ (List.mem_append_right _ (List.mem_append_right _ (List.mem_append_right _ (List.mem_append_right _ (List.mem_append_right _ (List.mem_append_right _ (List.mem_append_right _ (List.mem_append_right _ (List.mem_append_right _ (List.mem_append_right _ (List.mem_append_left _ (List.mem_of_getElem? h))))))))))))))))
theorem ab_in16 {w : Cond} (i : Nat) (h : tables_1_16[i]? = some w) (hg : goodWord w = true) : w ∈ abTW := abTwm (ab_im16 i h) hg
theorem ab_im17 {w : Cond} (i : Nat) (h : tables_1_17[i]? = some w) : w ∈ tables_1 := by
  unfold tables_1
  exact List.mem_append_right _ (List.mem_append_right _ (List.mem_append_right _ (List.mem_append_right _ (List.mem_append_right _ (List.mem_append_right _ (List.mem_append_right _ (List.mem_append_right _ (List.mem_append_right _ (List.mem_append_right _ (List.mem_append_right _ (List.mem_append_right _ (List.mem_append_right _ (List.mem_append_right _ (List.mem_append_right _ (List.mem_append_right _ (List.mem_append_left _ (List.mem_of_getElem? h)))))))))))))))))
theorem ab_in17 {w : Cond} (i : Nat) (h : tables_1_17[i]? = some w) (hg : goodWord w = true) : w ∈ abTW := abTwm (ab_im17 i h) hg
theorem ab_im18 {w : Cond} (i : Nat) (h : tables_1_18[i]? = some w) : w ∈ tables_1 := by
  unfold tables_1
  exact List.mem_append_right _ (List.mem_append_right _ (List.mem_append_right _ (List.mem_append_right _ (List.mem_append_right _ (List.mem_append_right _ (List.mem_append_right _ (List.mem_append_right _ (List.mem_append_right _ (List.mem_append_right _ (List.mem_append_right _ (List.mem_append_right _ (List.mem_append_right _ (List.mem_append_right _ (List.mem_append_right _ (List.mem_append_right _ (List.mem_append_right _ (List.mem_append_left _ (List.mem_of_getElem? h))))))))))))))))))
theorem ab_in18 {w : Cond} (i : Nat) (h : tables_1_18[i]? = some w) (hg : goodWord w = true) : w ∈ abTW := abTwm (ab_im18 i h) hg
theorem ab_im19 {w : Cond} (i : Nat) (h : tables_1_19[i]? = some w) : w ∈ tables_1 := by
  unfold tables_1
  exact List.mem_append_right _ (List.mem_append_right _ (List.mem_append_right _ (List.mem_append_right _ (List.mem_append_right _ (List.mem_append_right _ (List.mem_append_right _ (List.mem_append_right _ (List.mem_append_right _ (List.mem_append_right _ (List.mem_append_right _ (List.mem_append_right _ (List.mem_append_right _ (List.mem_append_right _ (List.mem_append_right _ (List.mem_append_right _ (List.mem_append_right _ (List.mem_append_right _ (List.mem_append_left _ (List.mem_of_getElem? h)))))))))))))))))))
theorem ab_in19 {w : Cond} (i : Nat) (h : tables_1_19[i]? = some w) (hg : goodWord w = true) : w ∈ abTW := abTwm (ab_im19 i h) hg
theorem ab_im20 {w : Cond} (i : Nat) (h : tables_1_20[i]? = some w) : w ∈ tables_1 := by
  unfold tables_1
  exact List.mem_append_right _ (List.mem_append_right _ (List.mem_append_right _ (List.mem_append_right _ (List.mem_append_right _ (List.mem_append_right _ (List.mem_append_right _ (List.mem_append_right _ (List.mem_append_right _ (List.mem_append_right _ (List.mem_append_right _ (List.mem_append_right _ (List.mem_append_right _ (List.mem_append_right _ (List.mem_append_right _ (List.mem_append_right _ (List.mem_append_right _ (List.mem_append_right _ (List.mem_append_right _ (List.mem_append_left _ (List.mem_of_getElem? h))))))))))))))))))))
theorem ab_in20 {w : Cond} (i : Nat) (h : tables_1_20[i]? = some w) (hg : goodWord w = true) : w ∈ abTW := abTwm (ab_im20 i h) hg
theorem ab_im21 {w : Cond} (i : Nat) (h : tables_1_21[i]? = some w) : w ∈ tables_1 := by
  unfold tables_1
  exact List.mem_append_right _ (List.mem_append_right _ (List.mem_append_right _ (List.mem_append_right _ (List.mem_append_right _ (List.mem_append_right _ (List.mem_append_right _ (List.mem_append_right _ (List.mem_append_right _ (List.mem_append_right _ (List.mem_append_right _ (List.mem_append_right _ (List.mem_append_right _ (List.mem_append_right _ (List.mem_append_right _ (List.mem_append_right _ (List.mem_append_right _ (List.mem_append_right _ (List.mem_append_right _ (List.mem_append_right _ (List.mem_append_left _ (List.mem_of_getElem? h)))))))))))))))))))))
theorem ab_in21 {w : Cond} (i : Nat) (h : tables_1_21[i]? = some w) (hg : goodWord w = true) : w ∈ abTW := abTwm (ab_im21 i h) hg
theorem ab_im22 {w : Cond} (i : Nat) (h : tables_1_22[i]? = some w) : w ∈ tables_1 := by
  unfold tables_1
  exact List.mem_append_right _ (List.mem_append_right _ (List.mem_append_right _ (List.mem_append_right _ (List.mem_append_right _ (List.mem_append_right _ (List.mem_append_right _ (List.mem_append_right _ (List.mem_append_right _ (List.mem_append_right _ (List.mem_append_right _ (List.mem_append_right _ (List.mem_append_right _ (List.mem_append_right _ (List.mem_append_right _ (List.mem_append_right _ (List.mem_append_right _ (List.mem_append_right _ (List.mem_append_right _ (List.mem_append_right _ (List.mem_append_right _ (List.mem_append_left _ (List.mem_of_getElem? h))))))))))))))))))))))
theorem ab_in22 {w : Cond} (i : Nat) (h : tables_1_22[i]? = some w) (hg : goodWord w = true) : w ∈ abTW := abTwm (ab_im22 i h) hg
theorem ab_im23 {w : Cond} (i : Nat) (h : tables_1_23[i]? = some w) : w ∈ tables_1 := by
  unfold tables_1
  exact List.mem_append_right _ (List.mem_append_right _ (List.mem_append_right _ (List.mem_append_right _ (List.mem_append_right _ (List.mem_append_right _ (List.mem_append_right _ (List.mem_append_right _ (List.mem_append_right _ (List.mem_append_right _ (List.mem_append_right _ (List.mem_append_right _ (List.mem_append_right _ (List.mem_append_right _ (List.mem_append_right _ (List.mem_append_right _ (List.mem_append_right _ (List.mem_append_right _ (List.mem_append_right _ (List.mem_append_right _ (List.mem_append_right _ (List.mem_append_right _ (List.mem_of_getElem? h))))))))))))))))))))))
theorem ab_in23 {w : Cond} (i : Nat) (h : tables_1_23[i]? = some w) (hg : goodWord w = true) : w ∈ abTW := abTwm (ab_im23 i h) hg
theorem ab_is1 {q : MethodName × Nat} (i : Nat) (h : lw_privs_1[i]? = some q) : Cond.selects q.1.cls q.1 q.1 ∈ abTW := by
  have hm : q ∈ lw_privs := by
    unfold lw_privs
    exact List.mem_append_left _ (List.mem_of_getElem? h)
  exact List.mem_filter.mpr ⟨List.mem_append_left _ (List.mem_map.mpr ⟨q, hm, rfl⟩), rfl⟩
theorem ab_is2 {q : MethodName × Nat} (i : Nat) (h : lw_privs_2[i]? = some q) : Cond.selects q.1.cls q.1 q.1 ∈ abTW := by
  have hm : q ∈ lw_privs := by
    unfold lw_privs
    exact List.mem_append_right _ (List.mem_append_left _ (List.mem_of_getElem? h))
  exact List.mem_filter.mpr ⟨List.mem_append_left _ (List.mem_map.mpr ⟨q, hm, rfl⟩), rfl⟩
theorem ab_is3 {q : MethodName × Nat} (i : Nat) (h : lw_privs_3[i]? = some q) : Cond.selects q.1.cls q.1 q.1 ∈ abTW := by
  have hm : q ∈ lw_privs := by
    unfold lw_privs
    exact List.mem_append_right _ (List.mem_append_right _ (List.mem_append_left _ (List.mem_of_getElem? h)))
  exact List.mem_filter.mpr ⟨List.mem_append_left _ (List.mem_map.mpr ⟨q, hm, rfl⟩), rfl⟩
theorem ab_is4 {q : MethodName × Nat} (i : Nat) (h : lw_privs_4[i]? = some q) : Cond.selects q.1.cls q.1 q.1 ∈ abTW := by
  have hm : q ∈ lw_privs := by
    unfold lw_privs
    exact List.mem_append_right _ (List.mem_append_right _ (List.mem_append_right _ (List.mem_append_left _ (List.mem_of_getElem? h))))
  exact List.mem_filter.mpr ⟨List.mem_append_left _ (List.mem_map.mpr ⟨q, hm, rfl⟩), rfl⟩
theorem ab_is5 {q : MethodName × Nat} (i : Nat) (h : lw_privs_5[i]? = some q) : Cond.selects q.1.cls q.1 q.1 ∈ abTW := by
  have hm : q ∈ lw_privs := by
    unfold lw_privs
    exact List.mem_append_right _ (List.mem_append_right _ (List.mem_append_right _ (List.mem_append_right _ (List.mem_append_left _ (List.mem_of_getElem? h)))))
  exact List.mem_filter.mpr ⟨List.mem_append_left _ (List.mem_map.mpr ⟨q, hm, rfl⟩), rfl⟩
theorem ab_is6 {q : MethodName × Nat} (i : Nat) (h : lw_privs_6[i]? = some q) : Cond.selects q.1.cls q.1 q.1 ∈ abTW := by
  have hm : q ∈ lw_privs := by
    unfold lw_privs
    exact List.mem_append_right _ (List.mem_append_right _ (List.mem_append_right _ (List.mem_append_right _ (List.mem_append_right _ (List.mem_append_left _ (List.mem_of_getElem? h))))))
  exact List.mem_filter.mpr ⟨List.mem_append_left _ (List.mem_map.mpr ⟨q, hm, rfl⟩), rfl⟩
theorem ab_is7 {q : MethodName × Nat} (i : Nat) (h : lw_privs_7[i]? = some q) : Cond.selects q.1.cls q.1 q.1 ∈ abTW := by
  have hm : q ∈ lw_privs := by
    unfold lw_privs
    exact List.mem_append_right _ (List.mem_append_right _ (List.mem_append_right _ (List.mem_append_right _ (List.mem_append_right _ (List.mem_append_right _ (List.mem_append_left _ (List.mem_of_getElem? h)))))))
  exact List.mem_filter.mpr ⟨List.mem_append_left _ (List.mem_map.mpr ⟨q, hm, rfl⟩), rfl⟩
theorem ab_is8 {q : MethodName × Nat} (i : Nat) (h : lw_privs_8[i]? = some q) : Cond.selects q.1.cls q.1 q.1 ∈ abTW := by
  have hm : q ∈ lw_privs := by
    unfold lw_privs
    exact List.mem_append_right _ (List.mem_append_right _ (List.mem_append_right _ (List.mem_append_right _ (List.mem_append_right _ (List.mem_append_right _ (List.mem_append_right _ (List.mem_append_left _ (List.mem_of_getElem? h))))))))
  exact List.mem_filter.mpr ⟨List.mem_append_left _ (List.mem_map.mpr ⟨q, hm, rfl⟩), rfl⟩
theorem ab_is9 {q : MethodName × Nat} (i : Nat) (h : lw_privs_9[i]? = some q) : Cond.selects q.1.cls q.1 q.1 ∈ abTW := by
  have hm : q ∈ lw_privs := by
    unfold lw_privs
    exact List.mem_append_right _ (List.mem_append_right _ (List.mem_append_right _ (List.mem_append_right _ (List.mem_append_right _ (List.mem_append_right _ (List.mem_append_right _ (List.mem_append_right _ (List.mem_append_left _ (List.mem_of_getElem? h)))))))))
  exact List.mem_filter.mpr ⟨List.mem_append_left _ (List.mem_map.mpr ⟨q, hm, rfl⟩), rfl⟩
theorem ab_is10 {q : MethodName × Nat} (i : Nat) (h : lw_privs_10[i]? = some q) : Cond.selects q.1.cls q.1 q.1 ∈ abTW := by
  have hm : q ∈ lw_privs := by
    unfold lw_privs
    exact List.mem_append_right _ (List.mem_append_right _ (List.mem_append_right _ (List.mem_append_right _ (List.mem_append_right _ (List.mem_append_right _ (List.mem_append_right _ (List.mem_append_right _ (List.mem_append_right _ (List.mem_append_left _ (List.mem_of_getElem? h))))))))))
  exact List.mem_filter.mpr ⟨List.mem_append_left _ (List.mem_map.mpr ⟨q, hm, rfl⟩), rfl⟩
theorem ab_is11 {q : MethodName × Nat} (i : Nat) (h : lw_privs_11[i]? = some q) : Cond.selects q.1.cls q.1 q.1 ∈ abTW := by
  have hm : q ∈ lw_privs := by
    unfold lw_privs
    exact List.mem_append_right _ (List.mem_append_right _ (List.mem_append_right _ (List.mem_append_right _ (List.mem_append_right _ (List.mem_append_right _ (List.mem_append_right _ (List.mem_append_right _ (List.mem_append_right _ (List.mem_append_right _ (List.mem_append_left _ (List.mem_of_getElem? h)))))))))))
  exact List.mem_filter.mpr ⟨List.mem_append_left _ (List.mem_map.mpr ⟨q, hm, rfl⟩), rfl⟩
theorem ab_is12 {q : MethodName × Nat} (i : Nat) (h : lw_privs_12[i]? = some q) : Cond.selects q.1.cls q.1 q.1 ∈ abTW := by
  have hm : q ∈ lw_privs := by
    unfold lw_privs
    exact List.mem_append_right _ (List.mem_append_right _ (List.mem_append_right _ (List.mem_append_right _ (List.mem_append_right _ (List.mem_append_right _ (List.mem_append_right _ (List.mem_append_right _ (List.mem_append_right _ (List.mem_append_right _ (List.mem_append_right _ (List.mem_append_left _ (List.mem_of_getElem? h))))))))))))
  exact List.mem_filter.mpr ⟨List.mem_append_left _ (List.mem_map.mpr ⟨q, hm, rfl⟩), rfl⟩
theorem ab_is13 {q : MethodName × Nat} (i : Nat) (h : lw_privs_13[i]? = some q) : Cond.selects q.1.cls q.1 q.1 ∈ abTW := by
  have hm : q ∈ lw_privs := by
    unfold lw_privs
    exact List.mem_append_right _ (List.mem_append_right _ (List.mem_append_right _ (List.mem_append_right _ (List.mem_append_right _ (List.mem_append_right _ (List.mem_append_right _ (List.mem_append_right _ (List.mem_append_right _ (List.mem_append_right _ (List.mem_append_right _ (List.mem_append_right _ (List.mem_append_left _ (List.mem_of_getElem? h)))))))))))))
  exact List.mem_filter.mpr ⟨List.mem_append_left _ (List.mem_map.mpr ⟨q, hm, rfl⟩), rfl⟩
theorem ab_is14 {q : MethodName × Nat} (i : Nat) (h : lw_privs_14[i]? = some q) : Cond.selects q.1.cls q.1 q.1 ∈ abTW := by
  have hm : q ∈ lw_privs := by
    unfold lw_privs
    exact List.mem_append_right _ (List.mem_append_right _ (List.mem_append_right _ (List.mem_append_right _ (List.mem_append_right _ (List.mem_append_right _ (List.mem_append_right _ (List.mem_append_right _ (List.mem_append_right _ (List.mem_append_right _ (List.mem_append_right _ (List.mem_append_right _ (List.mem_append_right _ (List.mem_append_left _ (List.mem_of_getElem? h))))))))))))))
  exact List.mem_filter.mpr ⟨List.mem_append_left _ (List.mem_map.mpr ⟨q, hm, rfl⟩), rfl⟩
theorem ab_is15 {q : MethodName × Nat} (i : Nat) (h : lw_privs_15[i]? = some q) : Cond.selects q.1.cls q.1 q.1 ∈ abTW := by
  have hm : q ∈ lw_privs := by
    unfold lw_privs
    exact List.mem_append_right _ (List.mem_append_right _ (List.mem_append_right _ (List.mem_append_right _ (List.mem_append_right _ (List.mem_append_right _ (List.mem_append_right _ (List.mem_append_right _ (List.mem_append_right _ (List.mem_append_right _ (List.mem_append_right _ (List.mem_append_right _ (List.mem_append_right _ (List.mem_append_right _ (List.mem_append_left _ (List.mem_of_getElem? h)))))))))))))))
  exact List.mem_filter.mpr ⟨List.mem_append_left _ (List.mem_map.mpr ⟨q, hm, rfl⟩), rfl⟩
theorem ab_is16 {q : MethodName × Nat} (i : Nat) (h : lw_privs_16[i]? = some q) : Cond.selects q.1.cls q.1 q.1 ∈ abTW := by
  have hm : q ∈ lw_privs := by
    unfold lw_privs
    exact List.mem_append_right _ (List.mem_append_right _ (List.mem_append_right _ (List.mem_append_right _ (List.mem_append_right _ (List.mem_append_right _ (List.mem_append_right _ (List.mem_append_right _ (List.mem_append_right _ (List.mem_append_right _ (List.mem_append_right _ (List.mem_append_right _ (List.mem_append_right _ (List.mem_append_right _ (List.mem_append_right _ (List.mem_append_left _ (List.mem_of_getElem? h))))))))))))))))
  exact List.mem_filter.mpr ⟨List.mem_append_left _ (List.mem_map.mpr ⟨q, hm, rfl⟩), rfl⟩
theorem ab_is17 {q : MethodName × Nat} (i : Nat) (h : lw_privs_17[i]? = some q) : Cond.selects q.1.cls q.1 q.1 ∈ abTW := by
  have hm : q ∈ lw_privs := by
    unfold lw_privs
    exact List.mem_append_right _ (List.mem_append_right _ (List.mem_append_right _ (List.mem_append_right _ (List.mem_append_right _ (List.mem_append_right _ (List.mem_append_right _ (List.mem_append_right _ (List.mem_append_right _ (List.mem_append_right _ (List.mem_append_right _ (List.mem_append_right _ (List.mem_append_right _ (List.mem_append_right _ (List.mem_append_right _ (List.mem_append_right _ (List.mem_append_left _ (List.mem_of_getElem? h)))))))))))))))))
  exact List.mem_filter.mpr ⟨List.mem_append_left _ (List.mem_map.mpr ⟨q, hm, rfl⟩), rfl⟩
theorem ab_is18 {q : MethodName × Nat} (i : Nat) (h : lw_privs_18[i]? = some q) : Cond.selects q.1.cls q.1 q.1 ∈ abTW := by
  have hm : q ∈ lw_privs := by
    unfold lw_privs
    exact List.mem_append_right _ (List.mem_append_right _ (List.mem_append_right _ (List.mem_append_right _ (List.mem_append_right _ (List.mem_append_right _ (List.mem_append_right _ (List.mem_append_right _ (List.mem_append_right _ (List.mem_append_right _ (List.mem_append_right _ (List.mem_append_right _ (List.mem_append_right _ (List.mem_append_right _ (List.mem_append_right _ (List.mem_append_right _ (List.mem_append_right _ (List.mem_append_left _ (List.mem_of_getElem? h))))))))))))))))))
  exact List.mem_filter.mpr ⟨List.mem_append_left _ (List.mem_map.mpr ⟨q, hm, rfl⟩), rfl⟩
theorem ab_is19 {q : MethodName × Nat} (i : Nat) (h : lw_privs_19[i]? = some q) : Cond.selects q.1.cls q.1 q.1 ∈ abTW := by
  have hm : q ∈ lw_privs := by
    unfold lw_privs
    exact List.mem_append_right _ (List.mem_append_right _ (List.mem_append_right _ (List.mem_append_right _ (List.mem_append_right _ (List.mem_append_right _ (List.mem_append_right _ (List.mem_append_right _ (List.mem_append_right _ (List.mem_append_right _ (List.mem_append_right _ (List.mem_append_right _ (List.mem_append_right _ (List.mem_append_right _ (List.mem_append_right _ (List.mem_append_right _ (List.mem_append_right _ (List.mem_append_right _ (List.mem_append_left _ (List.mem_of_getElem? h)))))))))))))))))))
  exact List.mem_filter.mpr ⟨List.mem_append_left _ (List.mem_map.mpr ⟨q, hm, rfl⟩), rfl⟩
theorem ab_is20 {q : MethodName × Nat} (i : Nat) (h : lw_privs_20[i]? = some q) : Cond.selects q.1.cls q.1 q.1 ∈ abTW := by
  have hm : q ∈ lw_privs := by
    unfold lw_privs
    exact List.mem_append_right _ (List.mem_append_right _ (List.mem_append_right _ (List.mem_append_right _ (List.mem_append_right _ (List.mem_append_right _ (List.mem_append_right _ (List.mem_append_right _ (List.mem_append_right _ (List.mem_append_right _ (List.mem_append_right _ (List.mem_append_right _ (List.mem_append_right _ (List.mem_append_right _ (List.mem_append_right _ (List.mem_append_right _ (List.mem_append_right _ (List.mem_append_right _ (List.mem_append_right _ (List.mem_append_left _ (List.mem_of_getElem? h))))))))))))))))))))
  exact List.mem_filter.mpr ⟨List.mem_append_left _ (List.mem_map.mpr ⟨q, hm, rfl⟩), rfl⟩
theorem ab_is21 {q : MethodName × Nat} (i : Nat) (h : lw_privs_21[i]? = some q) : Cond.selects q.1.cls q.1 q.1 ∈ abTW := by
  have hm : q ∈ lw_privs := by
    unfold lw_privs
    exact List.mem_append_right _ (List.mem_append_right _ (List.mem_append_right _ (List.mem_append_right _ (List.mem_append_right _ (List.mem_append_right _ (List.mem_append_right _ (List.mem_append_right _ (List.mem_append_right _ (List.mem_append_right _ (List.mem_append_right _ (List.mem_append_right _ (List.mem_append_right _ (List.mem_append_right _ (List.mem_append_right _ (List.mem_append_right _ (List.mem_append_right _ (List.mem_append_right _ (List.mem_append_right _ (List.mem_append_right _ (List.mem_append_left _ (List.mem_of_getElem? h)))))))))))))))))))))
  exact List.mem_filter.mpr ⟨List.mem_append_left _ (List.mem_map.mpr ⟨q, hm, rfl⟩), rfl⟩
theorem ab_is22 {q : MethodName × Nat} (i : Nat) (h : lw_privs_22[i]? = some q) : Cond.selects q.1.cls q.1 q.1 ∈ abTW := by
  have hm : q ∈ lw_privs := by
    unfold lw_privs
    exact List.mem_append_right _ (List.mem_append_right _ (List.mem_append_right _ (List.mem_append_right _ (List.mem_append_right _ (List.mem_append_right _ (List.mem_append_right _ (List.mem_append_right _ (List.mem_append_right _ (List.mem_append_right _ (List.mem_append_right _ (List.mem_append_right _ (List.mem_append_right _ (List.mem_append_right _ (List.mem_append_right _ (List.mem_append_right _ (List.mem_append_right _ (List.mem_append_right _ (List.mem_append_right _ (List.mem_append_right _ (List.mem_append_right _ (List.mem_append_left _ (List.mem_of_getElem? h))))))))))))))))))))))
  exact List.mem_filter.mpr ⟨List.mem_append_left _ (List.mem_map.mpr ⟨q, hm, rfl⟩), rfl⟩
theorem ab_is23 {q : MethodName × Nat} (i : Nat) (h : lw_privs_23[i]? = some q) : Cond.selects q.1.cls q.1 q.1 ∈ abTW := by
  have hm : q ∈ lw_privs := by
    unfold lw_privs
    exact List.mem_append_right _ (List.mem_append_right _ (List.mem_append_right _ (List.mem_append_right _ (List.mem_append_right _ (List.mem_append_right _ (List.mem_append_right _ (List.mem_append_right _ (List.mem_append_right _ (List.mem_append_right _ (List.mem_append_right _ (List.mem_append_right _ (List.mem_append_right _ (List.mem_append_right _ (List.mem_append_right _ (List.mem_append_right _ (List.mem_append_right _ (List.mem_append_right _ (List.mem_append_right _ (List.mem_append_right _ (List.mem_append_right _ (List.mem_append_right _ (List.mem_append_left _ (List.mem_of_getElem? h)))))))))))))))))))))))
  exact List.mem_filter.mpr ⟨List.mem_append_left _ (List.mem_map.mpr ⟨q, hm, rfl⟩), rfl⟩
theorem ab_is24 {q : MethodName × Nat} (i : Nat) (h : lw_privs_24[i]? = some q) : Cond.selects q.1.cls q.1 q.1 ∈ abTW := by
  have hm : q ∈ lw_privs := by
    unfold lw_privs
    exact List.mem_append_right _ (List.mem_append_right _ (List.mem_append_right _ (List.mem_append_right _ (List.mem_append_right _ (List.mem_append_right _ (List.mem_append_right _ (List.mem_append_right _ (List.mem_append_right _ (List.mem_append_right _ (List.mem_append_right _ (List.mem_append_right _ (List.mem_append_right _ (List.mem_append_right _ (List.mem_append_right _ (List.mem_append_right _ (List.mem_append_right _ (List.mem_append_right _ (List.mem_append_right _ (List.mem_append_right _ (List.mem_append_right _ (List.mem_append_right _ (List.mem_append_right _ (List.mem_append_left _ (List.mem_of_getElem? h))))))))))))))))))))))))
  exact List.mem_filter.mpr ⟨List.mem_append_left _ (List.mem_map.mpr ⟨q, hm, rfl⟩), rfl⟩
theorem ab_is25 {q : MethodName × Nat} (i : Nat) (h : lw_privs_25[i]? = some q) : Cond.selects q.1.cls q.1 q.1 ∈ abTW := by
  have hm : q ∈ lw_privs := by
    unfold lw_privs
    exact List.mem_append_right _ (List.mem_append_right _ (List.mem_append_right _ (List.mem_append_right _ (List.mem_append_right _ (List.mem_append_right _ (List.mem_append_right _ (List.mem_append_right _ (List.mem_append_right _ (List.mem_append_right _ (List.mem_append_right _ (List.mem_append_right _ (List.mem_append_right _ (List.mem_append_right _ (List.mem_append_right _ (List.mem_append_right _ (List.mem_append_right _ (List.mem_append_right _ (List.mem_append_right _ (List.mem_append_right _ (List.mem_append_right _ (List.mem_append_right _ (List.mem_append_right _ (List.mem_append_right _ (List.mem_append_left _ (List.mem_of_getElem? h)))))))))))))))))))))))))
  exact List.mem_filter.mpr ⟨List.mem_append_left _ (List.mem_map.mpr ⟨q, hm, rfl⟩), rfl⟩
theorem ab_is26 {q : MethodName × Nat} (i : Nat) (h : lw_privs_26[i]? = some q) : Cond.selects q.1.cls q.1 q.1 ∈ abTW := by
  have hm : q ∈ lw_privs := by
    unfold lw_privs
    exact List.mem_append_right _ (List.mem_append_right _ (List.mem_append_right _ (List.mem_append_right _ (List.mem_append_right _ (List.mem_append_right _ (List.mem_append_right _ (List.mem_append_right _ (List.mem_append_right _ (List.mem_append_right _ (List.mem_append_right _ (List.mem_append_right _ (List.mem_append_right _ (List.mem_append_right _ (List.mem_append_right _ (List.mem_append_right _ (List.mem_append_right _ (List.mem_append_right _ (List.mem_append_right _ (List.mem_append_right _ (List.mem_append_right _ (List.mem_append_right _ (List.mem_append_right _ (List.mem_append_right _ (List.mem_append_right _ (List.mem_append_left _ (List.mem_of_getElem? h))))))))))))))))))))))))))
  exact List.mem_filter.mpr ⟨List.mem_append_left _ (List.mem_map.mpr ⟨q, hm, rfl⟩), rfl⟩
theorem ab_is27 {q : MethodName × Nat} (i : Nat) (h : lw_privs_27[i]? = some q) : Cond.selects q.1.cls q.1 q.1 ∈ abTW := by
  have hm : q ∈ lw_privs := by
    unfold lw_privs
    exact List.mem_append_right _ (List.mem_append_right _ (List.mem_append_right _ (List.mem_append_right _ (List.mem_append_right _ (List.mem_append_right _ (List.mem_append_right _ (List.mem_append_right _ (List.mem_append_right _ (List.mem_append_right _ (List.mem_append_right _ (List.mem_append_right _ (List.mem_append_right _ (List.mem_append_right _ (List.mem_append_right _ (List.mem_append_right _ (List.mem_append_right _ (List.mem_append_right _ (List.mem_append_right _ (List.mem_append_right _ (List.mem_append_right _ (List.mem_append_right _ (List.mem_append_right _ (List.mem_append_right _ (List.mem_append_right _ (List.mem_append_right _ (List.mem_append_left _ (List.mem_of_getElem? h)))))))))))))))))))))))))))
  exact List.mem_filter.mpr ⟨List.mem_append_left _ (List.mem_map.mpr ⟨q, hm, rfl⟩), rfl⟩
theorem ab_is28 {q : MethodName × Nat} (i : Nat) (h : lw_privs_28[i]? = some q) : Cond.selects q.1.cls q.1 q.1 ∈ abTW := by
  have hm : q ∈ lw_privs := by
    unfold lw_privs
    exact List.mem_append_right _ (List.mem_append_right _ (List.mem_append_right _ (List.mem_append_right _ (List.mem_append_right _ (List.mem_append_right _ (List.mem_append_right _ (List.mem_append_right _ (List.mem_append_right _ (List.mem_append_right _ (List.mem_append_right _ (List.mem_append_right _ (List.mem_append_right _ (List.mem_append_right _ (List.mem_append_right _ (List.mem_append_right _ (List.mem_append_right _ (List.mem_append_right _ (List.mem_append_right _ (List.mem_append_right _ (List.mem_append_right _ (List.mem_append_right _ (List.mem_append_right _ (List.mem_append_right _ (List.mem_append_right _ (List.mem_append_right _ (List.mem_append_right _ (List.mem_append_left _ (List.mem_of_getElem? h))))))))))))))))))))))))))))
  exact List.mem_filter.mpr ⟨List.mem_append_left _ (List.mem_map.mpr ⟨q, hm, rfl⟩), rfl⟩
theorem ab_is29 {q : MethodName × Nat} (i : Nat) (h : lw_privs_29[i]? = some q) : Cond.selects q.1.cls q.1 q.1 ∈ abTW := by
  have hm : q ∈ lw_privs := by
    unfold lw_privs
    exact List.mem_append_right _ (List.mem_append_right _ (List.mem_append_right _ (List.mem_append_right _ (List.mem_append_right _ (List.mem_append_right _ (List.mem_append_right _ (List.mem_append_right _ (List.mem_append_right _ (List.mem_append_right _ (List.mem_append_right _ (List.mem_append_right _ (List.mem_append_right _ (List.mem_append_right _ (List.mem_append_right _ (List.mem_append_right _ (List.mem_append_right _ (List.mem_append_right _ (List.mem_append_right _ (List.mem_append_right _ (List.mem_append_right _ (List.mem_append_right _ (List.mem_append_right _ (List.mem_append_right _ (List.mem_append_right _ (List.mem_append_right _ (List.mem_append_right _ (List.mem_append_right _ (List.mem_append_left _ (List.mem_of_getElem? h)))))))))))))))))))))))))))))
  exact List.mem_filter.mpr ⟨List.mem_append_left _ (List.mem_map.mpr ⟨q, hm, rfl⟩), rfl⟩
theorem ab_is30 {q : MethodName × Nat} (i : Nat) (h : lw_privs_30[i]? = some q) : Cond.selects q.1.cls q.1 q.1 ∈ abTW := by
  have hm : q ∈ lw_privs := by
    unfold lw_privs
    exact List.mem_append_right _ (List.mem_append_right _ (List.mem_append_right _ (List.mem_append_right _ (List.mem_append_right _ (List.mem_append_right _ (List.mem_append_right _ (List.mem_append_right _ (List.mem_append_right _ (List.mem_append_right _ (List.mem_append_right _ (List.mem_append_right _ (List.mem_append_right _ (List.mem_append_right _ (List.mem_append_right _ (List.mem_append_right _ (List.mem_append_right _ (List.mem_append_right _ (List.mem_append_right _ (List.mem_append_right _ (List.mem_append_right _ (List.mem_append_right _ (List.mem_append_right _ (List.mem_append_right _ (List.mem_append_right _ (List.mem_append_right _ (List.mem_append_right _ (List.mem_append_right _ (List.mem_append_right _ (List.mem_append_left _ (List.mem_of_getElem? h))))))))))))))))))))))))))))))
  exact List.mem_filter.mpr ⟨List.mem_append_left _ (List.mem_map.mpr ⟨q, hm, rfl⟩), rfl⟩
theorem ab_is31 {q : MethodName × Nat} (i : Nat) (h : lw_privs_31[i]? = some q) : Cond.selects q.1.cls q.1 q.1 ∈ abTW := by
  have hm : q ∈ lw_privs := by
    unfold lw_privs
    exact List.mem_append_right _ (List.mem_append_right _ (List.mem_append_right _ (List.mem_append_right _ (List.mem_append_right _ (List.mem_append_right _ (List.mem_append_right _ (List.mem_append_right _ (List.mem_append_right _ (List.mem_append_right _ (List.mem_append_right _ (List.mem_append_right _ (List.mem_append_right _ (List.mem_append_right _ (List.mem_append_right _ (List.mem_append_right _ (List.mem_append_right _ (List.mem_append_right _ (List.mem_append_right _ (List.mem_append_right _ (List.mem_append_right _ (List.mem_append_right _ (List.mem_append_right _ (List.mem_append_right _ (List.mem_append_right _ (List.mem_append_right _ (List.mem_append_right _ (List.mem_append_right _ (List.mem_append_right _ (List.mem_append_right _ (List.mem_of_getElem? h))))))))))))))))))))))))))))))
  exact List.mem_filter.mpr ⟨List.mem_append_left _ (List.mem_map.mpr ⟨q, hm, rfl⟩), rfl⟩
theorem ab_nl {α : Type} {P : α → Prop} : ∀ q ∈ ([] : List α), P q := fun _ h => nomatch h
theorem ab_cn2 {α : Type} {P : α → Prop} {a : α} {l : List α} (h : P a) (t : ∀ q ∈ l, P q) : ∀ q ∈ a :: l, P q := List.forall_mem_cons.mpr ⟨h, t⟩
def ab_Fm {α : Type} (P : Nat → α → Prop) : Nat → List (List α) → Prop
  | _, [] => True
  | o, l :: L => (∀ q ∈ l, P o q) ∧ ab_Fm P (o + 1) L
theorem ab_fm_at {α : Type} {P : Nat → α → Prop} : ∀ {L : List (List α)} {k : Nat}, ab_Fm P k L → ∀ o l, ab_at L o = some l → ∀ q ∈ l, P (k + o) q
  | [], _, _, _, _, h => by cases h
  | a :: L, k, hF, 0, l, h => by
    cases h
    exact hF.1
  | a :: L, k, hF, o + 1, l, h => by
    have := ab_fm_at hF.2 o l h
    rw [show k + (o + 1) = k + 1 + o by omega]
    exact this
noncomputable def ab_row {α : Type} (L : List (List α)) (o : Nat) : List α := match ab_at L o with
  | some l => l
  | none => []
theorem ab_fam {α : Type} {P : Nat → α → Prop} {L : List (List α)} (h : ab_Fm P 0 L) : ∀ o, ∀ q ∈ ab_row L o, P o q := by
  intro o
  unfold ab_row
  cases hl : ab_at L o with
  | none => exact fun q hq => nomatch hq
  | some l =>
    have := ab_fm_at h o l hl
    rw [Nat.zero_add] at this
    exact this
def abLF_l : List (List (Nat × (Nat × Nat))) := [[(13, (0, 2)), (16, (0, 4)), (19, (0, 6)), (22, (0, 10)), (26, (0, 11)), (29, (0, 12)), (33, (0, 13)), (36, (0, 14)), (39, (0, 16)), (42, (0, 19)), (54, (0, 0)), (62, (0, 1)), (65, (0, 3)), (68, (0, 5)), (71, (0, 7)), (74, (0, 8)), (77, (0, 9)), (195, (0, 17)), (198, (0, 18)), (201, (0, 15))], [(14, (1, 0)), (22, (1, 1)), (25, (1, 2)), (28, (1, 5)), (31, (1, 7)), (34, (1, 9)), (49, (1, 3)), (53, (1, 4)), (56, (1, 6)), (59, (1, 8)), (62, (1, 10))], [(11, (2, 0)), (17, (2, 2)), (20, (2, 3)), (23, (2, 4)), (26, (2, 6)), (29, (2, 7)), (32, (2, 9)), (35, (2, 13)), (38, (2, 14)), (41, (2, 15)), (48, (2, 1)), (52, (2, 5)), (55, (2, 8)), (58, (2, 10)), (61, (2, 11)), (64, (2, 12)), (68, (2, 16))], [(14, (3, 0)), (20, (3, 1)), (24, (3, 2)), (27, (3, 3)), (30, (3, 4)), (35, (3, 6)), (40, (3, 7)), (43, (3, 9)), (47, (3, 10)), (50, (3, 11)), (53, (3, 12)), (56, (3, 13)), (59, (3, 15)), (62, (3, 16)), (65, (3, 18)), (68, (3, 20)), (77, (3, 5)), (87, (3, 14)), (90, (3, 17)), (93, (3, 19))], [(13, (4, 3)), (16, (4, 5)), (19, (4, 7)), (23, (4, 14)), (26, (4, 15)), (31, (4, 17)), (36, (4, 19)), (39, (4, 20)), (42, (4, 21)), (54, (4, 0)), (69, (4, 1)), (74, (4, 2)), (77, (4, 4)), (80, (4, 6)), (83, (4, 8)), (86, (4, 9)), (90, (4, 10)), (93, (4, 11)), (97, (4, 12)), (100, (4, 13)), (103, (4, 16)), (207, (4, 18))], [(11, (5, 1)), (15, (5, 2)), (18, (5, 3)), (23, (5, 4)), (31, (5, 5)), (35, (5, 6)), (38, (5, 7)), (41, (5, 10)), (44, (5, 11)), (47, (5, 12)), (50, (5, 13)), (60, (5, 0)), (73, (5, 8)), (76, (5, 9))], [(11, (6, 2)), (15, (6, 3)), (20, (6, 4)), (23, (6, 10)), (26, (6, 11)), (29, (6, 12)), (32, (6, 13)), (36, (6, 14)), (39, (6, 15)), (42, (6, 16)), (45, (6, 0)), (49, (6, 1)), (62, (6, 5)), (65, (6, 6)), (135, (6, 7)), (141, (6, 9)), (161, (6, 8))], [(13, (7, 3)), (16, (7, 5)), (19, (7, 9)), (22, (7, 10)), (25, (7, 11)), (28, (7, 12)), (32, (7, 13)), (35, (7, 14)), (38, (7, 15)), (41, (7, 17)), (44, (7, 18)), (55, (7, 0)), (59, (7, 1)), (62, (7, 2)), (65, (7, 4)), (68, (7, 6)), (71, (7, 7)), (75, (7, 8)), (78, (7, 16))], [(13, (8, 0)), (16, (8, 2)), (19, (8, 3)), (23, (8, 5)), (26, (8, 7)), (29, (8, 9)), (32, (8, 10)), (38, (8, 1)), (42, (8, 4)), (45, (8, 6)), (48, (8, 8)), (51, (8, 11)), (54, (8, 12))], [(9, (9, 0)), (21, (9, 1)), (25, (9, 2))], [(11, (10, 0)), (17, (10, 3)), (20, (10, 4)), (23, (10, 5)), (26, (10, 7)), (31, (10, 9)), (34, (10, 10)), (37, (10, 12)), (40, (10, 13)), (43, (10, 15)), (46, (10, 16)), (52, (10, 1)), (56, (10, 2)), (59, (10, 6)), (62, (10, 8)), (65, (10, 11)), (68, (10, 14))], [(10, (11, 0)), (19, (11, 1)), (26, (11, 2)), (33, (11, 3)), (40, (11, 4)), (47, (11, 5)), (54, (11, 6)), (61, (11, 7)), (68, (11, 8)), (75, (11, 9)), (79, (11, 10)), (175, (11, 11)), (224, (11, 12)), (227, (11, 13))], [(7, (12, 4)), (13, (12, 5)), (16, (12, 7)), (19, (12, 8)), (23, (12, 10)), (26, (12, 11)), (29, (12, 12)), (33, (12, 13)), (36, (12, 14)), (39, (12, 15)), (42, (12, 16)), (45, (12, 21)), (48, (12, 23)), (51, (12, 24)), (54, (12, 25)), (57, (12, 26)), (60, (12, 27)), (63, (12, 29)), (66, (12, 30)), (69, (12, 31)), (72, (12, 35)), (79, (12, 1)), (83, (12, 2)), (87, (12, 0)), (96, (12, 3)), (99, (12, 20)), (105, (12, 6)), (108, (12, 9)), (140, (12, 22)), (143, (12, 28)), (180, (12, 32)), (184, (12, 33))], [(7, (13, 1)), (13, (13, 5)), (16, (13, 6)), (19, (13, 7)), (24, (13, 8)), (30, (13, 9)), (33, (13, 10)), (37, (13, 13)), (40, (13, 15)), (43, (13, 16)), (46, (13, 18)), (49, (13, 19)), (52, (13, 0)), (55, (13, 2)), (58, (13, 3)), (61, (13, 4)), (133, (13, 11)), (136, (13, 12)), (139, (13, 14)), (149, (13, 17))], [(7, (14, 2)), (13, (14, 3)), (16, (14, 4)), (19, (14, 5)), (22, (14, 7)), (25, (14, 8)), (28, (14, 9)), (31, (14, 10)), (34, (14, 12)), (37, (14, 13)), (40, (14, 14)), (43, (14, 15)), (46, (14, 17)), (49, (14, 18)), (52, (14, 22)), (55, (14, 23)), (58, (14, 24)), (61, (14, 25)), (64, (14, 26)), (67, (14, 31)), (70, (14, 32)), (73, (14, 33)), (77, (14, 16)), (81, (14, 0)), (89, (14, 1)), (92, (14, 20)), (96, (14, 6)), (99, (14, 11)), (144, (14, 19))], [(7, (15, 1)), (13, (15, 3)), (16, (15, 4)), (19, (15, 6)), (22, (15, 7)), (25, (15, 8)), (29, (15, 9)), (32, (15, 10)), (36, (15, 11)), (39, (15, 12)), (42, (15, 17)), (45, (15, 18)), (48, (15, 19)), (51, (15, 20)), (54, (15, 24)), (57, (15, 25)), (60, (15, 26)), (63, (15, 28)), (66, (15, 29)), (69, (15, 31)), (72, (15, 32)), (75, (15, 33)), (78, (15, 0)), (90, (15, 2)), (104, (15, 34)), (111, (15, 5)), (117, (15, 21)), (121, (15, 22)), (150, (15, 14)), (153, (15, 15)), (195, (15, 23)), (204, (15, 27)), (213, (15, 30))], [(7, (16, 5)), (13, (16, 6)), (16, (16, 7)), (19, (16, 8)), (22, (16, 9)), (25, (16, 10)), (28, (16, 12)), (31, (16, 13)), (34, (16, 14)), (37, (16, 15)), (41, (16, 16)), (45, (16, 17)), (48, (16, 18)), (51, (16, 19)), (55, (16, 20)), (59, (16, 23)), (64, (16, 24)), (67, (16, 25)), (70, (16, 26)), (73, (16, 27)), (76, (16, 28)), (79, (16, 29)), (82, (16, 30)), (85, (16, 31)), (88, (16, 32)), (91, (16, 35)), (94, (16, 37)), (97, (16, 38)), (100, (16, 39)), (103, (16, 40)), (106, (16, 41)), (109, (16, 43)), (112, (16, 45)), (115, (16, 46)), (122, (16, 1)), (125, (16, 2)), (128, (16, 3)), (132, (16, 0)), (135, (16, 33)), (149, (16, 4)), (158, (16, 11)), (168, (16, 21)), (173, (16, 22)), (193, (16, 34)), (219, (16, 36)), (253, (16, 44)), (260, (16, 42))], [(7, (17, 2)), (13, (17, 3)), (16, (17, 4)), (20, (17, 5)), (23, (17, 6)), (26, (17, 7)), (29, (17, 11)), (32, (17, 12)), (35, (17, 16)), (38, (17, 18)), (41, (17, 19)), (44, (17, 20)), (47, (17, 21)), (50, (17, 22)), (53, (17, 1)), (57, (17, 0)), (72, (17, 8)), (75, (17, 9)), (78, (17, 10)), (106, (17, 14)), (128, (17, 15))], [(7, (18, 3)), (13, (18, 4)), (17, (18, 6)), (20, (18, 7)), (23, (18, 8)), (26, (18, 9)), (29, (18, 10)), (32, (18, 11)), (35, (18, 12)), (38, (18, 13)), (41, (18, 14)), (44, (18, 15)), (47, (18, 21)), (50, (18, 1)), (54, (18, 2)), (57, (18, 0)), (68, (18, 16)), (73, (18, 5)), (133, (18, 20)), (140, (18, 19)), (150, (18, 17)), (153, (18, 18))], [(7, (19, 5)), (13, (19, 6)), (16, (19, 7)), (19, (19, 8)), (22, (19, 10)), (25, (19, 11)), (28, (19, 12)), (31, (19, 13)), (35, (19, 14)), (38, (19, 15)), (41, (19, 16)), (44, (19, 17)), (47, (19, 18)), (50, (19, 19)), (53, (19, 20)), (56, (19, 23)), (59, (19, 24)), (62, (19, 25)), (65, (19, 26)), (68, (19, 27)), (71, (19, 28)), (74, (19, 29)), (77, (19, 30)), (80, (19, 31)), (83, (19, 32)), (86, (19, 33)), (89, (19, 1)), (93, (19, 2)), (96, (19, 3)), (99, (19, 0)), (106, (19, 4)), (109, (19, 21)), (113, (19, 9)), (152, (19, 22))], [(7, (20, 2)), (13, (20, 3)), (17, (20, 4)), (20, (20, 5)), (23, (20, 6)), (26, (20, 7)), (29, (20, 9)), (32, (20, 10)), (35, (20, 11)), (38, (20, 12)), (42, (20, 14)), (45, (20, 15)), (48, (20, 16)), (51, (20, 17)), (54, (20, 18)), (57, (20, 19)), (60, (20, 21)), (64, (20, 0)), (67, (20, 1)), (86, (20, 8)), (138, (20, 13)), (156, (20, 20))], [(7, (21, 4)), (13, (21, 5)), (16, (21, 6)), (19, (21, 7)), (22, (21, 8)), (25, (21, 10)), (28, (21, 11)), (31, (21, 12)), (34, (21, 14)), (37, (21, 15)), (40, (21, 16)), (43, (21, 18)), (46, (21, 19)), (49, (21, 20)), (52, (21, 24)), (55, (21, 25)), (58, (21, 0)), (68, (21, 1)), (72, (21, 2)), (75, (21, 3)), (111, (21, 9)), (132, (21, 13)), (160, (21, 17)), (181, (21, 21)), (184, (21, 22)), (187, (21, 23))], [(7, (22, 1)), (18, (22, 2)), (27, (22, 3)), (34, (22, 4)), (41, (22, 5)), (48, (22, 6)), (55, (22, 7)), (64, (22, 8)), (71, (22, 9)), (78, (22, 10)), (85, (22, 11)), (89, (22, 12)), (93, (22, 0)), (639, (22, 13)), (653, (22, 14)), (656, (22, 15))], [], []]
noncomputable def abLF (o : Nat) : List (Nat × (Nat × Nat)) := ab_row abLF_l o
def abLF_P (o : Nat) (q : Nat × (Nat × Nat)) : Prop := Cond.fieldLink (abCS o) q.1 ((abCT q.2.1).2 q.2.2).1 ((abCT q.2.1).2 q.2.2).2.1 ((abCT q.2.1).2 q.2.2).2.2.1 ∈ abTW
theorem abLF_0_13 : Cond.fieldLink "TimberHouse$Fingers" 13 "TimberHouse$Fingers" "pieces" "[[I" ∈ abTW := ab_in1 231 rfl rfl
theorem abLF_0_16 : Cond.fieldLink "TimberHouse$Fingers" 16 "TimberHouse$Fingers" "products" "[[I" ∈ abTW := ab_in1 233 rfl rfl
theorem abLF_0_19 : Cond.fieldLink "TimberHouse$Fingers" 19 "TimberHouse$Fingers" "bars" "[[I" ∈ abTW := ab_in1 235 rfl rfl
theorem abLF_0_22 : Cond.fieldLink "TimberHouse$Fingers" 22 "TimberHouse$Fingers" "order" "[I" ∈ abTW := ab_in1 239 rfl rfl
theorem abLF_0_26 : Cond.fieldLink "TimberHouse$Fingers" 26 "TimberHouse$Fingers" "bestOrder" "[I" ∈ abTW := ab_in2 0 rfl rfl
theorem abLF_0_29 : Cond.fieldLink "TimberHouse$Fingers" 29 "TimberHouse$Fingers" "keys" "[J" ∈ abTW := ab_in2 1 rfl rfl
theorem abLF_0_33 : Cond.fieldLink "TimberHouse$Fingers" 33 "TimberHouse$Fingers" "picks" "[I" ∈ abTW := ab_in2 2 rfl rfl
theorem abLF_0_36 : Cond.fieldLink "TimberHouse$Fingers" 36 "TimberHouse$Fingers" "made" "[[I" ∈ abTW := ab_in2 3 rfl rfl
theorem abLF_0_39 : Cond.fieldLink "TimberHouse$Fingers" 39 "TimberHouse$Fingers" "joints" "[[I" ∈ abTW := ab_in2 5 rfl rfl
theorem abLF_0_42 : Cond.fieldLink "TimberHouse$Fingers" 42 "TimberHouse$Fingers" "tests" "[I" ∈ abTW := ab_in2 8 rfl rfl
theorem abLF_0_54 : Cond.fieldLink "TimberHouse$Fingers" 54 "TimberHouse$Fingers" "step" "I" ∈ abTW := ab_in1 229 rfl rfl
theorem abLF_0_62 : Cond.fieldLink "TimberHouse$Fingers" 62 "TimberHouse$Fingers" "loss" "I" ∈ abTW := ab_in1 230 rfl rfl
theorem abLF_0_65 : Cond.fieldLink "TimberHouse$Fingers" 65 "TimberHouse$Fingers" "pieceCount" "I" ∈ abTW := ab_in1 232 rfl rfl
theorem abLF_0_68 : Cond.fieldLink "TimberHouse$Fingers" 68 "TimberHouse$Fingers" "productCount" "I" ∈ abTW := ab_in1 234 rfl rfl
theorem abLF_0_71 : Cond.fieldLink "TimberHouse$Fingers" 71 "TimberHouse$Fingers" "barCount" "I" ∈ abTW := ab_in1 236 rfl rfl
theorem abLF_0_74 : Cond.fieldLink "TimberHouse$Fingers" 74 "TimberHouse$Fingers" "alone" "I" ∈ abTW := ab_in1 237 rfl rfl
theorem abLF_0_77 : Cond.fieldLink "TimberHouse$Fingers" 77 "TimberHouse$Fingers" "fresh" "Z" ∈ abTW := ab_in1 238 rfl rfl
theorem abLF_0_195 : Cond.fieldLink "TimberHouse$Fingers" 195 "TimberHouse$Fingers" "jointCount" "I" ∈ abTW := ab_in2 6 rfl rfl
theorem abLF_0_198 : Cond.fieldLink "TimberHouse$Fingers" 198 "TimberHouse$Fingers" "waste" "I" ∈ abTW := ab_in2 7 rfl rfl
theorem abLF_0_201 : Cond.fieldLink "TimberHouse$Fingers" 201 "TimberHouse$Fingers" "madeCount" "I" ∈ abTW := ab_in2 4 rfl rfl
theorem abLF_a0 : ∀ q ∈ (abLF_l[0]?.getD []), abLF_P 0 q := ab_cn2 abLF_0_13 (ab_cn2 abLF_0_16 (ab_cn2 abLF_0_19 (ab_cn2 abLF_0_22 (ab_cn2 abLF_0_26 (ab_cn2 abLF_0_29 (ab_cn2 abLF_0_33 (ab_cn2 abLF_0_36 (ab_cn2 abLF_0_39 (ab_cn2 abLF_0_42 (ab_cn2 abLF_0_54 (ab_cn2 abLF_0_62 (ab_cn2 abLF_0_65 (ab_cn2 abLF_0_68 (ab_cn2 abLF_0_71 (ab_cn2 abLF_0_74 (ab_cn2 abLF_0_77 (ab_cn2 abLF_0_195 (ab_cn2 abLF_0_198 (ab_cn2 abLF_0_201 ab_nl)))))))))))))))))))
theorem abLF_1_14 : Cond.fieldLink "TimberHouse$Nails" 14 "TimberHouse$Nails" "text" "LTimberHouse$Text;" ∈ abTW := ab_in2 147 rfl rfl
theorem abLF_1_22 : Cond.fieldLink "TimberHouse$Nails" 22 "TimberHouse$Nails" "rules" "[[I" ∈ abTW := ab_in2 148 rfl rfl
theorem abLF_1_25 : Cond.fieldLink "TimberHouse$Nails" 25 "TimberHouse$Nails" "said" "[[I" ∈ abTW := ab_in2 149 rfl rfl
theorem abLF_1_28 : Cond.fieldLink "TimberHouse$Nails" 28 "TimberHouse$Nails" "pattern" "[[I" ∈ abTW := ab_in2 152 rfl rfl
theorem abLF_1_31 : Cond.fieldLink "TimberHouse$Nails" 31 "TimberHouse$Nails" "places" "[[I" ∈ abTW := ab_in2 154 rfl rfl
theorem abLF_1_34 : Cond.fieldLink "TimberHouse$Nails" 34 "TimberHouse$Nails" "members" "[[I" ∈ abTW := ab_in2 156 rfl rfl
theorem abLF_1_49 : Cond.fieldLink "TimberHouse$Nails" 49 "TimberHouse$Nails" "wet" "I" ∈ abTW := ab_in2 150 rfl rfl
theorem abLF_1_53 : Cond.fieldLink "TimberHouse$Nails" 53 "TimberHouse$Nails" "less" "I" ∈ abTW := ab_in2 151 rfl rfl
theorem abLF_1_56 : Cond.fieldLink "TimberHouse$Nails" 56 "TimberHouse$Nails" "patternCount" "I" ∈ abTW := ab_in2 153 rfl rfl
theorem abLF_1_59 : Cond.fieldLink "TimberHouse$Nails" 59 "TimberHouse$Nails" "placeCount" "I" ∈ abTW := ab_in2 155 rfl rfl
theorem abLF_1_62 : Cond.fieldLink "TimberHouse$Nails" 62 "TimberHouse$Nails" "memberCount" "I" ∈ abTW := ab_in2 157 rfl rfl
theorem abLF_a1 : ∀ q ∈ (abLF_l[1]?.getD []), abLF_P 1 q := ab_cn2 abLF_1_14 (ab_cn2 abLF_1_22 (ab_cn2 abLF_1_25 (ab_cn2 abLF_1_28 (ab_cn2 abLF_1_31 (ab_cn2 abLF_1_34 (ab_cn2 abLF_1_49 (ab_cn2 abLF_1_53 (ab_cn2 abLF_1_56 (ab_cn2 abLF_1_59 (ab_cn2 abLF_1_62 ab_nl))))))))))
theorem abLF_2_11 : Cond.fieldLink "TimberHouse$Plans" 11 "TimberHouse$Plans" "kinds" "[I" ∈ abTW := ab_in3 81 rfl rfl
theorem abLF_2_17 : Cond.fieldLink "TimberHouse$Plans" 17 "TimberHouse$Plans" "outs" "[[I" ∈ abTW := ab_in3 83 rfl rfl
theorem abLF_2_20 : Cond.fieldLink "TimberHouse$Plans" 20 "TimberHouse$Plans" "outCounts" "[I" ∈ abTW := ab_in3 84 rfl rfl
theorem abLF_2_23 : Cond.fieldLink "TimberHouse$Plans" 23 "TimberHouse$Plans" "jobs" "[[I" ∈ abTW := ab_in3 85 rfl rfl
theorem abLF_2_26 : Cond.fieldLink "TimberHouse$Plans" 26 "TimberHouse$Plans" "jobSteps" "[[I" ∈ abTW := ab_in3 87 rfl rfl
theorem abLF_2_29 : Cond.fieldLink "TimberHouse$Plans" 29 "TimberHouse$Plans" "steps" "[[I" ∈ abTW := ab_in3 88 rfl rfl
theorem abLF_2_32 : Cond.fieldLink "TimberHouse$Plans" 32 "TimberHouse$Plans" "places" "[[I" ∈ abTW := ab_in3 90 rfl rfl
theorem abLF_2_35 : Cond.fieldLink "TimberHouse$Plans" 35 "TimberHouse$Plans" "orders" "[[I" ∈ abTW := ab_in3 94 rfl rfl
theorem abLF_2_38 : Cond.fieldLink "TimberHouse$Plans" 38 "TimberHouse$Plans" "about" "[I" ∈ abTW := ab_in3 95 rfl rfl
theorem abLF_2_41 : Cond.fieldLink "TimberHouse$Plans" 41 "TimberHouse$Plans" "alone" "[I" ∈ abTW := ab_in3 96 rfl rfl
theorem abLF_2_48 : Cond.fieldLink "TimberHouse$Plans" 48 "TimberHouse$Plans" "machineCount" "I" ∈ abTW := ab_in3 82 rfl rfl
theorem abLF_2_52 : Cond.fieldLink "TimberHouse$Plans" 52 "TimberHouse$Plans" "jobCount" "I" ∈ abTW := ab_in3 86 rfl rfl
theorem abLF_2_55 : Cond.fieldLink "TimberHouse$Plans" 55 "TimberHouse$Plans" "stepCount" "I" ∈ abTW := ab_in3 89 rfl rfl
theorem abLF_2_58 : Cond.fieldLink "TimberHouse$Plans" 58 "TimberHouse$Plans" "planSteps" "I" ∈ abTW := ab_in3 91 rfl rfl
theorem abLF_2_61 : Cond.fieldLink "TimberHouse$Plans" 61 "TimberHouse$Plans" "planJobs" "I" ∈ abTW := ab_in3 92 rfl rfl
theorem abLF_2_64 : Cond.fieldLink "TimberHouse$Plans" 64 "TimberHouse$Plans" "told" "Z" ∈ abTW := ab_in3 93 rfl rfl
theorem abLF_2_68 : Cond.fieldLink "TimberHouse$Plans" 68 "TimberHouse$Plans" "x" "J" ∈ abTW := ab_in3 97 rfl rfl
theorem abLF_a2 : ∀ q ∈ (abLF_l[2]?.getD []), abLF_P 2 q := ab_cn2 abLF_2_11 (ab_cn2 abLF_2_17 (ab_cn2 abLF_2_20 (ab_cn2 abLF_2_23 (ab_cn2 abLF_2_26 (ab_cn2 abLF_2_29 (ab_cn2 abLF_2_32 (ab_cn2 abLF_2_35 (ab_cn2 abLF_2_38 (ab_cn2 abLF_2_41 (ab_cn2 abLF_2_48 (ab_cn2 abLF_2_52 (ab_cn2 abLF_2_55 (ab_cn2 abLF_2_58 (ab_cn2 abLF_2_61 (ab_cn2 abLF_2_64 (ab_cn2 abLF_2_68 ab_nl))))))))))))))))
theorem abLF_3_14 : Cond.fieldLink "TimberHouse$Prices" 14 "TimberHouse$Prices" "text" "LTimberHouse$Text;" ∈ abTW := ab_in3 158 rfl rfl
theorem abLF_3_20 : Cond.fieldLink "TimberHouse$Prices" 20 "TimberHouse$Prices" "signs" "[I" ∈ abTW := ab_in3 159 rfl rfl
theorem abLF_3_24 : Cond.fieldLink "TimberHouse$Prices" 24 "TimberHouse$Prices" "starts" "[I" ∈ abTW := ab_in3 160 rfl rfl
theorem abLF_3_27 : Cond.fieldLink "TimberHouse$Prices" 27 "TimberHouse$Prices" "newSigns" "[I" ∈ abTW := ab_in3 161 rfl rfl
theorem abLF_3_30 : Cond.fieldLink "TimberHouse$Prices" 30 "TimberHouse$Prices" "newStarts" "[I" ∈ abTW := ab_in3 162 rfl rfl
theorem abLF_3_35 : Cond.fieldLink "TimberHouse$Prices" 35 "TimberHouse$Prices" "facts" "[[I" ∈ abTW := ab_in3 164 rfl rfl
theorem abLF_3_40 : Cond.fieldLink "TimberHouse$Prices" 40 "TimberHouse$Prices" "stack" "[[J" ∈ abTW := ab_in3 165 rfl rfl
theorem abLF_3_43 : Cond.fieldLink "TimberHouse$Prices" 43 "TimberHouse$Prices" "total" "[J" ∈ abTW := ab_in3 167 rfl rfl
theorem abLF_3_47 : Cond.fieldLink "TimberHouse$Prices" 47 "TimberHouse$Prices" "value" "[J" ∈ abTW := ab_in3 168 rfl rfl
theorem abLF_3_50 : Cond.fieldLink "TimberHouse$Prices" 50 "TimberHouse$Prices" "added" "[[J" ∈ abTW := ab_in3 169 rfl rfl
theorem abLF_3_53 : Cond.fieldLink "TimberHouse$Prices" 53 "TimberHouse$Prices" "opened" "[[I" ∈ abTW := ab_in3 170 rfl rfl
theorem abLF_3_56 : Cond.fieldLink "TimberHouse$Prices" 56 "TimberHouse$Prices" "currencies" "[[I" ∈ abTW := ab_in3 171 rfl rfl
theorem abLF_3_59 : Cond.fieldLink "TimberHouse$Prices" 59 "TimberHouse$Prices" "offers" "[J" ∈ abTW := ab_in3 173 rfl rfl
theorem abLF_3_62 : Cond.fieldLink "TimberHouse$Prices" 62 "TimberHouse$Prices" "lastDays" "[I" ∈ abTW := ab_in3 174 rfl rfl
theorem abLF_3_65 : Cond.fieldLink "TimberHouse$Prices" 65 "TimberHouse$Prices" "invoices" "[J" ∈ abTW := ab_in3 176 rfl rfl
theorem abLF_3_68 : Cond.fieldLink "TimberHouse$Prices" 68 "TimberHouse$Prices" "learned" "[[J" ∈ abTW := ab_in3 178 rfl rfl
theorem abLF_3_77 : Cond.fieldLink "TimberHouse$Prices" 77 "TimberHouse$Prices" "lineCount" "I" ∈ abTW := ab_in3 163 rfl rfl
theorem abLF_3_87 : Cond.fieldLink "TimberHouse$Prices" 87 "TimberHouse$Prices" "currencyCount" "I" ∈ abTW := ab_in3 172 rfl rfl
theorem abLF_3_90 : Cond.fieldLink "TimberHouse$Prices" 90 "TimberHouse$Prices" "offerCount" "I" ∈ abTW := ab_in3 175 rfl rfl
theorem abLF_3_93 : Cond.fieldLink "TimberHouse$Prices" 93 "TimberHouse$Prices" "invoiceCount" "I" ∈ abTW := ab_in3 177 rfl rfl
theorem abLF_a3 : ∀ q ∈ (abLF_l[3]?.getD []), abLF_P 3 q := ab_cn2 abLF_3_14 (ab_cn2 abLF_3_20 (ab_cn2 abLF_3_24 (ab_cn2 abLF_3_27 (ab_cn2 abLF_3_30 (ab_cn2 abLF_3_35 (ab_cn2 abLF_3_40 (ab_cn2 abLF_3_43 (ab_cn2 abLF_3_47 (ab_cn2 abLF_3_50 (ab_cn2 abLF_3_53 (ab_cn2 abLF_3_56 (ab_cn2 abLF_3_59 (ab_cn2 abLF_3_62 (ab_cn2 abLF_3_65 (ab_cn2 abLF_3_68 (ab_cn2 abLF_3_77 (ab_cn2 abLF_3_87 (ab_cn2 abLF_3_90 (ab_cn2 abLF_3_93 ab_nl)))))))))))))))))))
theorem abLF_4_13 : Cond.fieldLink "TimberHouse$Rips" 13 "TimberHouse$Rips" "faults" "[[I" ∈ abTW := ab_in1 146 rfl rfl
theorem abLF_4_16 : Cond.fieldLink "TimberHouse$Rips" 16 "TimberHouse$Rips" "pieces" "[[I" ∈ abTW := ab_in1 148 rfl rfl
theorem abLF_4_19 : Cond.fieldLink "TimberHouse$Rips" 19 "TimberHouse$Rips" "gang" "[I" ∈ abTW := ab_in1 150 rfl rfl
theorem abLF_4_23 : Cond.fieldLink "TimberHouse$Rips" 23 "TimberHouse$Rips" "plan" "[[I" ∈ abTW := ab_in1 157 rfl rfl
theorem abLF_4_26 : Cond.fieldLink "TimberHouse$Rips" 26 "TimberHouse$Rips" "kept" "[[I" ∈ abTW := ab_in1 158 rfl rfl
theorem abLF_4_31 : Cond.fieldLink "TimberHouse$Rips" 31 "TimberHouse$Rips" "priced" "[[J" ∈ abTW := ab_in1 160 rfl rfl
theorem abLF_4_36 : Cond.fieldLink "TimberHouse$Rips" 36 "TimberHouse$Rips" "tables" "[[J" ∈ abTW := ab_in1 162 rfl rfl
theorem abLF_4_39 : Cond.fieldLink "TimberHouse$Rips" 39 "TimberHouse$Rips" "fits" "[I" ∈ abTW := ab_in1 163 rfl rfl
theorem abLF_4_42 : Cond.fieldLink "TimberHouse$Rips" 42 "TimberHouse$Rips" "sums" "[I" ∈ abTW := ab_in1 164 rfl rfl
theorem abLF_4_54 : Cond.fieldLink "TimberHouse$Rips" 54 "TimberHouse$Rips" "step" "I" ∈ abTW := ab_in1 143 rfl rfl
theorem abLF_4_69 : Cond.fieldLink "TimberHouse$Rips" 69 "TimberHouse$Rips" "longSteps" "I" ∈ abTW := ab_in1 144 rfl rfl
theorem abLF_4_74 : Cond.fieldLink "TimberHouse$Rips" 74 "TimberHouse$Rips" "wideSteps" "I" ∈ abTW := ab_in1 145 rfl rfl
theorem abLF_4_77 : Cond.fieldLink "TimberHouse$Rips" 77 "TimberHouse$Rips" "faultCount" "I" ∈ abTW := ab_in1 147 rfl rfl
theorem abLF_4_80 : Cond.fieldLink "TimberHouse$Rips" 80 "TimberHouse$Rips" "pieceCount" "I" ∈ abTW := ab_in1 149 rfl rfl
theorem abLF_4_83 : Cond.fieldLink "TimberHouse$Rips" 83 "TimberHouse$Rips" "gangCount" "I" ∈ abTW := ab_in1 151 rfl rfl
theorem abLF_4_86 : Cond.fieldLink "TimberHouse$Rips" 86 "TimberHouse$Rips" "margin" "I" ∈ abTW := ab_in1 152 rfl rfl
theorem abLF_4_90 : Cond.fieldLink "TimberHouse$Rips" 90 "TimberHouse$Rips" "bow" "I" ∈ abTW := ab_in1 153 rfl rfl
theorem abLF_4_93 : Cond.fieldLink "TimberHouse$Rips" 93 "TimberHouse$Rips" "fresh" "Z" ∈ abTW := ab_in1 154 rfl rfl
theorem abLF_4_97 : Cond.fieldLink "TimberHouse$Rips" 97 "TimberHouse$Rips" "way" "I" ∈ abTW := ab_in1 155 rfl rfl
theorem abLF_4_100 : Cond.fieldLink "TimberHouse$Rips" 100 "TimberHouse$Rips" "stages" "I" ∈ abTW := ab_in1 156 rfl rfl
theorem abLF_4_103 : Cond.fieldLink "TimberHouse$Rips" 103 "TimberHouse$Rips" "planCount" "I" ∈ abTW := ab_in1 159 rfl rfl
theorem abLF_4_207 : Cond.fieldLink "TimberHouse$Rips" 207 "TimberHouse$Rips" "bound" "J" ∈ abTW := ab_in1 161 rfl rfl
theorem abLF_a4 : ∀ q ∈ (abLF_l[4]?.getD []), abLF_P 4 q := ab_cn2 abLF_4_13 (ab_cn2 abLF_4_16 (ab_cn2 abLF_4_19 (ab_cn2 abLF_4_23 (ab_cn2 abLF_4_26 (ab_cn2 abLF_4_31 (ab_cn2 abLF_4_36 (ab_cn2 abLF_4_39 (ab_cn2 abLF_4_42 (ab_cn2 abLF_4_54 (ab_cn2 abLF_4_69 (ab_cn2 abLF_4_74 (ab_cn2 abLF_4_77 (ab_cn2 abLF_4_80 (ab_cn2 abLF_4_83 (ab_cn2 abLF_4_86 (ab_cn2 abLF_4_90 (ab_cn2 abLF_4_93 (ab_cn2 abLF_4_97 (ab_cn2 abLF_4_100 (ab_cn2 abLF_4_103 (ab_cn2 abLF_4_207 ab_nl)))))))))))))))))))))
theorem abLF_5_11 : Cond.fieldLink "TimberHouse$Router" 11 "TimberHouse$Router" "heights" "[I" ∈ abTW := ab_in3 28 rfl rfl
theorem abLF_5_15 : Cond.fieldLink "TimberHouse$Router" 15 "TimberHouse$Router" "targets" "[I" ∈ abTW := ab_in3 29 rfl rfl
theorem abLF_5_18 : Cond.fieldLink "TimberHouse$Router" 18 "TimberHouse$Router" "kept" "[I" ∈ abTW := ab_in3 30 rfl rfl
theorem abLF_5_23 : Cond.fieldLink "TimberHouse$Router" 23 "TimberHouse$Router" "tools" "[[I" ∈ abTW := ab_in3 31 rfl rfl
theorem abLF_5_31 : Cond.fieldLink "TimberHouse$Router" 31 "TimberHouse$Router" "text" "LTimberHouse$Text;" ∈ abTW := ab_in3 32 rfl rfl
theorem abLF_5_35 : Cond.fieldLink "TimberHouse$Router" 35 "TimberHouse$Router" "program" "[[I" ∈ abTW := ab_in3 33 rfl rfl
theorem abLF_5_38 : Cond.fieldLink "TimberHouse$Router" 38 "TimberHouse$Router" "reading" "[[I" ∈ abTW := ab_in3 34 rfl rfl
theorem abLF_5_41 : Cond.fieldLink "TimberHouse$Router" 41 "TimberHouse$Router" "about" "[I" ∈ abTW := ab_in3 37 rfl rfl
theorem abLF_5_44 : Cond.fieldLink "TimberHouse$Router" 44 "TimberHouse$Router" "machine" "[I" ∈ abTW := ab_in3 38 rfl rfl
theorem abLF_5_47 : Cond.fieldLink "TimberHouse$Router" 47 "TimberHouse$Router" "marks" "[I" ∈ abTW := ab_in3 39 rfl rfl
theorem abLF_5_50 : Cond.fieldLink "TimberHouse$Router" 50 "TimberHouse$Router" "waiting" "[I" ∈ abTW := ab_in3 40 rfl rfl
theorem abLF_5_60 : Cond.fieldLink "TimberHouse$Router" 60 "TimberHouse$Router" "side" "I" ∈ abTW := ab_in3 27 rfl rfl
theorem abLF_5_73 : Cond.fieldLink "TimberHouse$Router" 73 "TimberHouse$Router" "statements" "I" ∈ abTW := ab_in3 35 rfl rfl
theorem abLF_5_76 : Cond.fieldLink "TimberHouse$Router" 76 "TimberHouse$Router" "ran" "Z" ∈ abTW := ab_in3 36 rfl rfl
theorem abLF_a5 : ∀ q ∈ (abLF_l[5]?.getD []), abLF_P 5 q := ab_cn2 abLF_5_11 (ab_cn2 abLF_5_15 (ab_cn2 abLF_5_18 (ab_cn2 abLF_5_23 (ab_cn2 abLF_5_31 (ab_cn2 abLF_5_35 (ab_cn2 abLF_5_38 (ab_cn2 abLF_5_41 (ab_cn2 abLF_5_44 (ab_cn2 abLF_5_47 (ab_cn2 abLF_5_50 (ab_cn2 abLF_5_60 (ab_cn2 abLF_5_73 (ab_cn2 abLF_5_76 ab_nl)))))))))))))
theorem abLF_6_11 : Cond.fieldLink "TimberHouse$Saw" 11 "TimberHouse$Saw" "ends" "[I" ∈ abTW := ab_in1 55 rfl rfl
theorem abLF_6_15 : Cond.fieldLink "TimberHouse$Saw" 15 "TimberHouse$Saw" "knots" "[I" ∈ abTW := ab_in1 56 rfl rfl
theorem abLF_6_20 : Cond.fieldLink "TimberHouse$Saw" 20 "TimberHouse$Saw" "sizes" "[[I" ∈ abTW := ab_in1 57 rfl rfl
theorem abLF_6_23 : Cond.fieldLink "TimberHouse$Saw" 23 "TimberHouse$Saw" "board" "[[I" ∈ abTW := ab_in1 63 rfl rfl
theorem abLF_6_26 : Cond.fieldLink "TimberHouse$Saw" 26 "TimberHouse$Saw" "losses" "[I" ∈ abTW := ab_in1 64 rfl rfl
theorem abLF_6_29 : Cond.fieldLink "TimberHouse$Saw" 29 "TimberHouse$Saw" "lacks" "[I" ∈ abTW := ab_in1 65 rfl rfl
theorem abLF_6_32 : Cond.fieldLink "TimberHouse$Saw" 32 "TimberHouse$Saw" "row" "[J" ∈ abTW := ab_in1 66 rfl rfl
theorem abLF_6_36 : Cond.fieldLink "TimberHouse$Saw" 36 "TimberHouse$Saw" "rowPick" "[I" ∈ abTW := ab_in1 67 rfl rfl
theorem abLF_6_39 : Cond.fieldLink "TimberHouse$Saw" 39 "TimberHouse$Saw" "best" "[J" ∈ abTW := ab_in1 68 rfl rfl
theorem abLF_6_42 : Cond.fieldLink "TimberHouse$Saw" 42 "TimberHouse$Saw" "bestPick" "[I" ∈ abTW := ab_in1 69 rfl rfl
theorem abLF_6_45 : Cond.fieldLink "TimberHouse$Saw" 45 "TimberHouse$Saw" "side" "I" ∈ abTW := ab_in1 53 rfl rfl
theorem abLF_6_49 : Cond.fieldLink "TimberHouse$Saw" 49 "TimberHouse$Saw" "kerf" "I" ∈ abTW := ab_in1 54 rfl rfl
theorem abLF_6_62 : Cond.fieldLink "TimberHouse$Saw" 62 "TimberHouse$Saw" "sizeCount" "I" ∈ abTW := ab_in1 58 rfl rfl
theorem abLF_6_65 : Cond.fieldLink "TimberHouse$Saw" 65 "TimberHouse$Saw" "sawn" "Z" ∈ abTW := ab_in1 59 rfl rfl
theorem abLF_6_135 : Cond.fieldLink "TimberHouse$Saw" 135 "TimberHouse$Saw" "turn" "I" ∈ abTW := ab_in1 60 rfl rfl
theorem abLF_6_141 : Cond.fieldLink "TimberHouse$Saw" 141 "TimberHouse$Saw" "boards" "I" ∈ abTW := ab_in1 62 rfl rfl
theorem abLF_6_161 : Cond.fieldLink "TimberHouse$Saw" 161 "TimberHouse$Saw" "slabs" "I" ∈ abTW := ab_in1 61 rfl rfl
theorem abLF_a6 : ∀ q ∈ (abLF_l[6]?.getD []), abLF_P 6 q := ab_cn2 abLF_6_11 (ab_cn2 abLF_6_15 (ab_cn2 abLF_6_20 (ab_cn2 abLF_6_23 (ab_cn2 abLF_6_26 (ab_cn2 abLF_6_29 (ab_cn2 abLF_6_32 (ab_cn2 abLF_6_36 (ab_cn2 abLF_6_39 (ab_cn2 abLF_6_42 (ab_cn2 abLF_6_45 (ab_cn2 abLF_6_49 (ab_cn2 abLF_6_62 (ab_cn2 abLF_6_65 (ab_cn2 abLF_6_135 (ab_cn2 abLF_6_141 (ab_cn2 abLF_6_161 ab_nl))))))))))))))))
theorem abLF_7_13 : Cond.fieldLink "TimberHouse$Sheets" 13 "TimberHouse$Sheets" "sheets" "[[I" ∈ abTW := ab_in2 196 rfl rfl
theorem abLF_7_16 : Cond.fieldLink "TimberHouse$Sheets" 16 "TimberHouse$Sheets" "parts" "[[I" ∈ abTW := ab_in2 198 rfl rfl
theorem abLF_7_19 : Cond.fieldLink "TimberHouse$Sheets" 19 "TimberHouse$Sheets" "results" "[[I" ∈ abTW := ab_in2 202 rfl rfl
theorem abLF_7_22 : Cond.fieldLink "TimberHouse$Sheets" 22 "TimberHouse$Sheets" "taken" "[[I" ∈ abTW := ab_in2 203 rfl rfl
theorem abLF_7_25 : Cond.fieldLink "TimberHouse$Sheets" 25 "TimberHouse$Sheets" "rests" "[[I" ∈ abTW := ab_in2 204 rfl rfl
theorem abLF_7_28 : Cond.fieldLink "TimberHouse$Sheets" 28 "TimberHouse$Sheets" "codes" "[I" ∈ abTW := ab_in2 205 rfl rfl
theorem abLF_7_32 : Cond.fieldLink "TimberHouse$Sheets" 32 "TimberHouse$Sheets" "codeLengths" "[I" ∈ abTW := ab_in2 206 rfl rfl
theorem abLF_7_35 : Cond.fieldLink "TimberHouse$Sheets" 35 "TimberHouse$Sheets" "keys" "[I" ∈ abTW := ab_in2 207 rfl rfl
theorem abLF_7_38 : Cond.fieldLink "TimberHouse$Sheets" 38 "TimberHouse$Sheets" "choices" "[I" ∈ abTW := ab_in2 208 rfl rfl
theorem abLF_7_41 : Cond.fieldLink "TimberHouse$Sheets" 41 "TimberHouse$Sheets" "left" "[I" ∈ abTW := ab_in2 210 rfl rfl
theorem abLF_7_44 : Cond.fieldLink "TimberHouse$Sheets" 44 "TimberHouse$Sheets" "open" "[I" ∈ abTW := ab_in2 211 rfl rfl
theorem abLF_7_55 : Cond.fieldLink "TimberHouse$Sheets" 55 "TimberHouse$Sheets" "kerf" "I" ∈ abTW := ab_in2 193 rfl rfl
theorem abLF_7_59 : Cond.fieldLink "TimberHouse$Sheets" 59 "TimberHouse$Sheets" "stages" "I" ∈ abTW := ab_in2 194 rfl rfl
theorem abLF_7_62 : Cond.fieldLink "TimberHouse$Sheets" 62 "TimberHouse$Sheets" "least" "I" ∈ abTW := ab_in2 195 rfl rfl
theorem abLF_7_65 : Cond.fieldLink "TimberHouse$Sheets" 65 "TimberHouse$Sheets" "sheetCount" "I" ∈ abTW := ab_in2 197 rfl rfl
theorem abLF_7_68 : Cond.fieldLink "TimberHouse$Sheets" 68 "TimberHouse$Sheets" "partCount" "I" ∈ abTW := ab_in2 199 rfl rfl
theorem abLF_7_71 : Cond.fieldLink "TimberHouse$Sheets" 71 "TimberHouse$Sheets" "fresh" "Z" ∈ abTW := ab_in2 200 rfl rfl
theorem abLF_7_75 : Cond.fieldLink "TimberHouse$Sheets" 75 "TimberHouse$Sheets" "cutCount" "I" ∈ abTW := ab_in2 201 rfl rfl
theorem abLF_7_78 : Cond.fieldLink "TimberHouse$Sheets" 78 "TimberHouse$Sheets" "solvedFor" "I" ∈ abTW := ab_in2 209 rfl rfl
theorem abLF_a7 : ∀ q ∈ (abLF_l[7]?.getD []), abLF_P 7 q := ab_cn2 abLF_7_13 (ab_cn2 abLF_7_16 (ab_cn2 abLF_7_19 (ab_cn2 abLF_7_22 (ab_cn2 abLF_7_25 (ab_cn2 abLF_7_28 (ab_cn2 abLF_7_32 (ab_cn2 abLF_7_35 (ab_cn2 abLF_7_38 (ab_cn2 abLF_7_41 (ab_cn2 abLF_7_44 (ab_cn2 abLF_7_55 (ab_cn2 abLF_7_59 (ab_cn2 abLF_7_62 (ab_cn2 abLF_7_65 (ab_cn2 abLF_7_68 (ab_cn2 abLF_7_71 (ab_cn2 abLF_7_75 (ab_cn2 abLF_7_78 ab_nl))))))))))))))))))
theorem abLF_8_13 : Cond.fieldLink "TimberHouse$Shop" 13 "TimberHouse$Shop" "tellings" "[[I" ∈ abTW := ab_in3 233 rfl rfl
theorem abLF_8_16 : Cond.fieldLink "TimberHouse$Shop" 16 "TimberHouse$Shop" "sets" "[[I" ∈ abTW := ab_in3 235 rfl rfl
theorem abLF_8_19 : Cond.fieldLink "TimberHouse$Shop" 19 "TimberHouse$Shop" "setSizes" "[I" ∈ abTW := ab_in3 236 rfl rfl
theorem abLF_8_23 : Cond.fieldLink "TimberHouse$Shop" 23 "TimberHouse$Shop" "batches" "[I" ∈ abTW := ab_in3 238 rfl rfl
theorem abLF_8_26 : Cond.fieldLink "TimberHouse$Shop" 26 "TimberHouse$Shop" "entries" "[[I" ∈ abTW := ab_in4 0 rfl rfl
theorem abLF_8_29 : Cond.fieldLink "TimberHouse$Shop" 29 "TimberHouse$Shop" "rows" "[[I" ∈ abTW := ab_in4 2 rfl rfl
theorem abLF_8_32 : Cond.fieldLink "TimberHouse$Shop" 32 "TimberHouse$Shop" "byNumber" "[I" ∈ abTW := ab_in4 3 rfl rfl
theorem abLF_8_38 : Cond.fieldLink "TimberHouse$Shop" 38 "TimberHouse$Shop" "tellingCount" "I" ∈ abTW := ab_in3 234 rfl rfl
theorem abLF_8_42 : Cond.fieldLink "TimberHouse$Shop" 42 "TimberHouse$Shop" "setCount" "I" ∈ abTW := ab_in3 237 rfl rfl
theorem abLF_8_45 : Cond.fieldLink "TimberHouse$Shop" 45 "TimberHouse$Shop" "rights" "I" ∈ abTW := ab_in3 239 rfl rfl
theorem abLF_8_48 : Cond.fieldLink "TimberHouse$Shop" 48 "TimberHouse$Shop" "entryCount" "I" ∈ abTW := ab_in4 1 rfl rfl
theorem abLF_8_51 : Cond.fieldLink "TimberHouse$Shop" 51 "TimberHouse$Shop" "numbers" "I" ∈ abTW := ab_in4 4 rfl rfl
theorem abLF_8_54 : Cond.fieldLink "TimberHouse$Shop" 54 "TimberHouse$Shop" "closedMonth" "I" ∈ abTW := ab_in4 5 rfl rfl
theorem abLF_a8 : ∀ q ∈ (abLF_l[8]?.getD []), abLF_P 8 q := ab_cn2 abLF_8_13 (ab_cn2 abLF_8_16 (ab_cn2 abLF_8_19 (ab_cn2 abLF_8_23 (ab_cn2 abLF_8_26 (ab_cn2 abLF_8_29 (ab_cn2 abLF_8_32 (ab_cn2 abLF_8_38 (ab_cn2 abLF_8_42 (ab_cn2 abLF_8_45 (ab_cn2 abLF_8_48 (ab_cn2 abLF_8_51 (ab_cn2 abLF_8_54 ab_nl))))))))))))
theorem abLF_9_9 : Cond.fieldLink "TimberHouse$Text" 9 "TimberHouse$Text" "signs" "[I" ∈ abTW := ab_in2 127 rfl rfl
theorem abLF_9_21 : Cond.fieldLink "TimberHouse$Text" 21 "TimberHouse$Text" "room" "I" ∈ abTW := ab_in2 128 rfl rfl
theorem abLF_9_25 : Cond.fieldLink "TimberHouse$Text" 25 "TimberHouse$Text" "length" "I" ∈ abTW := ab_in2 129 rfl rfl
theorem abLF_a9 : ∀ q ∈ (abLF_l[9]?.getD []), abLF_P 9 q := ab_cn2 abLF_9_9 (ab_cn2 abLF_9_21 (ab_cn2 abLF_9_25 ab_nl))
theorem abLF_10_11 : Cond.fieldLink "TimberHouse$Turned" 11 "TimberHouse$Turned" "radii" "[I" ∈ abTW := ab_in2 62 rfl rfl
theorem abLF_10_17 : Cond.fieldLink "TimberHouse$Turned" 17 "TimberHouse$Turned" "pieces" "[[I" ∈ abTW := ab_in2 65 rfl rfl
theorem abLF_10_20 : Cond.fieldLink "TimberHouse$Turned" 20 "TimberHouse$Turned" "lengths" "[I" ∈ abTW := ab_in2 66 rfl rfl
theorem abLF_10_23 : Cond.fieldLink "TimberHouse$Turned" 23 "TimberHouse$Turned" "pieceWays" "[I" ∈ abTW := ab_in2 67 rfl rfl
theorem abLF_10_26 : Cond.fieldLink "TimberHouse$Turned" 26 "TimberHouse$Turned" "tools" "[I" ∈ abTW := ab_in2 69 rfl rfl
theorem abLF_10_31 : Cond.fieldLink "TimberHouse$Turned" 31 "TimberHouse$Turned" "rings" "[[J" ∈ abTW := ab_in2 71 rfl rfl
theorem abLF_10_34 : Cond.fieldLink "TimberHouse$Turned" 34 "TimberHouse$Turned" "ringSizes" "[I" ∈ abTW := ab_in2 72 rfl rfl
theorem abLF_10_37 : Cond.fieldLink "TimberHouse$Turned" 37 "TimberHouse$Turned" "pitch" "[I" ∈ abTW := ab_in2 74 rfl rfl
theorem abLF_10_40 : Cond.fieldLink "TimberHouse$Turned" 40 "TimberHouse$Turned" "rows" "[[I" ∈ abTW := ab_in2 75 rfl rfl
theorem abLF_10_43 : Cond.fieldLink "TimberHouse$Turned" 43 "TimberHouse$Turned" "lifts" "[I" ∈ abTW := ab_in2 77 rfl rfl
theorem abLF_10_46 : Cond.fieldLink "TimberHouse$Turned" 46 "TimberHouse$Turned" "reached" "[I" ∈ abTW := ab_in2 78 rfl rfl
theorem abLF_10_52 : Cond.fieldLink "TimberHouse$Turned" 52 "TimberHouse$Turned" "end" "I" ∈ abTW := ab_in2 63 rfl rfl
theorem abLF_10_56 : Cond.fieldLink "TimberHouse$Turned" 56 "TimberHouse$Turned" "ways" "I" ∈ abTW := ab_in2 64 rfl rfl
theorem abLF_10_59 : Cond.fieldLink "TimberHouse$Turned" 59 "TimberHouse$Turned" "pieceCount" "I" ∈ abTW := ab_in2 68 rfl rfl
theorem abLF_10_62 : Cond.fieldLink "TimberHouse$Turned" 62 "TimberHouse$Turned" "toolCount" "I" ∈ abTW := ab_in2 70 rfl rfl
theorem abLF_10_65 : Cond.fieldLink "TimberHouse$Turned" 65 "TimberHouse$Turned" "ringCount" "I" ∈ abTW := ab_in2 73 rfl rfl
theorem abLF_10_68 : Cond.fieldLink "TimberHouse$Turned" 68 "TimberHouse$Turned" "rowCount" "I" ∈ abTW := ab_in2 76 rfl rfl
theorem abLF_a10 : ∀ q ∈ (abLF_l[10]?.getD []), abLF_P 10 q := ab_cn2 abLF_10_11 (ab_cn2 abLF_10_17 (ab_cn2 abLF_10_20 (ab_cn2 abLF_10_23 (ab_cn2 abLF_10_26 (ab_cn2 abLF_10_31 (ab_cn2 abLF_10_34 (ab_cn2 abLF_10_37 (ab_cn2 abLF_10_40 (ab_cn2 abLF_10_43 (ab_cn2 abLF_10_46 (ab_cn2 abLF_10_52 (ab_cn2 abLF_10_56 (ab_cn2 abLF_10_59 (ab_cn2 abLF_10_62 (ab_cn2 abLF_10_65 (ab_cn2 abLF_10_68 ab_nl))))))))))))))))
theorem abLF_11_10 : Cond.fieldLink "TimberHouse" 10 "TimberHouse" "saw" "LTimberHouse$Saw;" ∈ abTW := ab_in4 33 rfl rfl
theorem abLF_11_19 : Cond.fieldLink "TimberHouse" 19 "TimberHouse" "rips" "LTimberHouse$Rips;" ∈ abTW := ab_in4 34 rfl rfl
theorem abLF_11_26 : Cond.fieldLink "TimberHouse" 26 "TimberHouse" "joined" "LTimberHouse$Fingers;" ∈ abTW := ab_in4 35 rfl rfl
theorem abLF_11_33 : Cond.fieldLink "TimberHouse" 33 "TimberHouse" "turned" "LTimberHouse$Turned;" ∈ abTW := ab_in4 36 rfl rfl
theorem abLF_11_40 : Cond.fieldLink "TimberHouse" 40 "TimberHouse" "nails" "LTimberHouse$Nails;" ∈ abTW := ab_in4 37 rfl rfl
theorem abLF_11_47 : Cond.fieldLink "TimberHouse" 47 "TimberHouse" "sheets" "LTimberHouse$Sheets;" ∈ abTW := ab_in4 38 rfl rfl
theorem abLF_11_54 : Cond.fieldLink "TimberHouse" 54 "TimberHouse" "router" "LTimberHouse$Router;" ∈ abTW := ab_in4 39 rfl rfl
theorem abLF_11_61 : Cond.fieldLink "TimberHouse" 61 "TimberHouse" "plans" "LTimberHouse$Plans;" ∈ abTW := ab_in4 40 rfl rfl
theorem abLF_11_68 : Cond.fieldLink "TimberHouse" 68 "TimberHouse" "prices" "LTimberHouse$Prices;" ∈ abTW := ab_in4 41 rfl rfl
theorem abLF_11_75 : Cond.fieldLink "TimberHouse" 75 "TimberHouse" "shop" "LTimberHouse$Shop;" ∈ abTW := ab_in4 42 rfl rfl
theorem abLF_11_79 : Cond.fieldLink "TimberHouse" 79 "TimberHouse" "made" "[I" ∈ abTW := ab_in4 43 rfl rfl
theorem abLF_11_175 : Cond.fieldLink "TimberHouse" 175 "TimberHouse" "partsWritten" "I" ∈ abTW := ab_in4 44 rfl rfl
theorem abLF_11_224 : Cond.fieldLink "TimberHouse" 224 "TimberHouse" "entriesBooked" "I" ∈ abTW := ab_in4 45 rfl rfl
theorem abLF_11_227 : Cond.fieldLink "TimberHouse" 227 "TimberHouse" "tellingsTold" "I" ∈ abTW := ab_in4 46 rfl rfl
theorem abLF_a11 : ∀ q ∈ (abLF_l[11]?.getD []), abLF_P 11 q := ab_cn2 abLF_11_10 (ab_cn2 abLF_11_19 (ab_cn2 abLF_11_26 (ab_cn2 abLF_11_33 (ab_cn2 abLF_11_40 (ab_cn2 abLF_11_47 (ab_cn2 abLF_11_54 (ab_cn2 abLF_11_61 (ab_cn2 abLF_11_68 (ab_cn2 abLF_11_75 (ab_cn2 abLF_11_79 (ab_cn2 abLF_11_175 (ab_cn2 abLF_11_224 (ab_cn2 abLF_11_227 ab_nl)))))))))))))
theorem abLF_12_7 : Cond.fieldLink "TimberHouseModel$Fingers" 7 "TimberHouseModel$Fingers" "lengths" "[I" ∈ abTW := ab_in13 104 rfl rfl
theorem abLF_12_13 : Cond.fieldLink "TimberHouseModel$Fingers" 13 "TimberHouseModel$Fingers" "groups" "[I" ∈ abTW := ab_in13 105 rfl rfl
theorem abLF_12_16 : Cond.fieldLink "TimberHouseModel$Fingers" 16 "TimberHouseModel$Fingers" "wanted" "[I" ∈ abTW := ab_in13 107 rfl rfl
theorem abLF_12_19 : Cond.fieldLink "TimberHouseModel$Fingers" 19 "TimberHouseModel$Fingers" "worths" "[J" ∈ abTW := ab_in13 108 rfl rfl
theorem abLF_12_23 : Cond.fieldLink "TimberHouseModel$Fingers" 23 "TimberHouseModel$Fingers" "barFrom" "[I" ∈ abTW := ab_in13 110 rfl rfl
theorem abLF_12_26 : Cond.fieldLink "TimberHouseModel$Fingers" 26 "TimberHouseModel$Fingers" "barTo" "[I" ∈ abTW := ab_in13 111 rfl rfl
theorem abLF_12_29 : Cond.fieldLink "TimberHouseModel$Fingers" 29 "TimberHouseModel$Fingers" "alone" "[Z" ∈ abTW := ab_in13 112 rfl rfl
theorem abLF_12_33 : Cond.fieldLink "TimberHouseModel$Fingers" 33 "TimberHouseModel$Fingers" "line" "[I" ∈ abTW := ab_in13 113 rfl rfl
theorem abLF_12_36 : Cond.fieldLink "TimberHouseModel$Fingers" 36 "TimberHouseModel$Fingers" "bestWorth" "[J" ∈ abTW := ab_in13 114 rfl rfl
theorem abLF_12_39 : Cond.fieldLink "TimberHouseModel$Fingers" 39 "TimberHouseModel$Fingers" "bestJoints" "[I" ∈ abTW := ab_in13 115 rfl rfl
theorem abLF_12_42 : Cond.fieldLink "TimberHouseModel$Fingers" 42 "TimberHouseModel$Fingers" "bestWaste" "[I" ∈ abTW := ab_in13 116 rfl rfl
theorem abLF_12_45 : Cond.fieldLink "TimberHouseModel$Fingers" 45 "TimberHouseModel$Fingers" "kept" "[I" ∈ abTW := ab_in13 121 rfl rfl
theorem abLF_12_48 : Cond.fieldLink "TimberHouseModel$Fingers" 48 "TimberHouseModel$Fingers" "which" "[I" ∈ abTW := ab_in13 123 rfl rfl
theorem abLF_12_51 : Cond.fieldLink "TimberHouseModel$Fingers" 51 "TimberHouseModel$Fingers" "beginPiece" "[I" ∈ abTW := ab_in13 124 rfl rfl
theorem abLF_12_54 : Cond.fieldLink "TimberHouseModel$Fingers" 54 "TimberHouseModel$Fingers" "beginStep" "[I" ∈ abTW := ab_in13 125 rfl rfl
theorem abLF_12_57 : Cond.fieldLink "TimberHouseModel$Fingers" 57 "TimberHouseModel$Fingers" "jointCount" "[I" ∈ abTW := ab_in13 126 rfl rfl
theorem abLF_12_60 : Cond.fieldLink "TimberHouseModel$Fingers" 60 "TimberHouseModel$Fingers" "hours" "[I" ∈ abTW := ab_in13 127 rfl rfl
theorem abLF_12_63 : Cond.fieldLink "TimberHouseModel$Fingers" 63 "TimberHouseModel$Fingers" "jointOf" "[I" ∈ abTW := ab_in13 129 rfl rfl
theorem abLF_12_66 : Cond.fieldLink "TimberHouseModel$Fingers" 66 "TimberHouseModel$Fingers" "jointAt" "[I" ∈ abTW := ab_in13 130 rfl rfl
theorem abLF_12_69 : Cond.fieldLink "TimberHouseModel$Fingers" 69 "TimberHouseModel$Fingers" "jointPiece" "[I" ∈ abTW := ab_in13 131 rfl rfl
theorem abLF_12_72 : Cond.fieldLink "TimberHouseModel$Fingers" 72 "TimberHouseModel$Fingers" "stops" "[I" ∈ abTW := ab_in13 135 rfl rfl
theorem abLF_12_79 : Cond.fieldLink "TimberHouseModel$Fingers" 79 "TimberHouseModel$Fingers" "step" "I" ∈ abTW := ab_in13 101 rfl rfl
theorem abLF_12_83 : Cond.fieldLink "TimberHouseModel$Fingers" 83 "TimberHouseModel$Fingers" "loss" "I" ∈ abTW := ab_in13 102 rfl rfl
theorem abLF_12_87 : Cond.fieldLink "TimberHouseModel$Fingers" 87 "TimberHouseModel$Fingers" "code" "I" ∈ abTW := ab_in13 100 rfl rfl
theorem abLF_12_96 : Cond.fieldLink "TimberHouseModel$Fingers" 96 "TimberHouseModel$Fingers" "pieces" "I" ∈ abTW := ab_in13 103 rfl rfl
theorem abLF_12_99 : Cond.fieldLink "TimberHouseModel$Fingers" 99 "TimberHouseModel$Fingers" "ran" "Z" ∈ abTW := ab_in13 120 rfl rfl
theorem abLF_12_105 : Cond.fieldLink "TimberHouseModel$Fingers" 105 "TimberHouseModel$Fingers" "products" "I" ∈ abTW := ab_in13 106 rfl rfl
theorem abLF_12_108 : Cond.fieldLink "TimberHouseModel$Fingers" 108 "TimberHouseModel$Fingers" "bars" "I" ∈ abTW := ab_in13 109 rfl rfl
theorem abLF_12_140 : Cond.fieldLink "TimberHouseModel$Fingers" 140 "TimberHouseModel$Fingers" "made" "I" ∈ abTW := ab_in13 122 rfl rfl
theorem abLF_12_143 : Cond.fieldLink "TimberHouseModel$Fingers" 143 "TimberHouseModel$Fingers" "allJoints" "I" ∈ abTW := ab_in13 128 rfl rfl
theorem abLF_12_180 : Cond.fieldLink "TimberHouseModel$Fingers" 180 "TimberHouseModel$Fingers" "tests" "J" ∈ abTW := ab_in13 132 rfl rfl
theorem abLF_12_184 : Cond.fieldLink "TimberHouseModel$Fingers" 184 "TimberHouseModel$Fingers" "bad" "J" ∈ abTW := ab_in13 133 rfl rfl
theorem abLF_a12 : ∀ q ∈ (abLF_l[12]?.getD []), abLF_P 12 q := ab_cn2 abLF_12_7 (ab_cn2 abLF_12_13 (ab_cn2 abLF_12_16 (ab_cn2 abLF_12_19 (ab_cn2 abLF_12_23 (ab_cn2 abLF_12_26 (ab_cn2 abLF_12_29 (ab_cn2 abLF_12_33 (ab_cn2 abLF_12_36 (ab_cn2 abLF_12_39 (ab_cn2 abLF_12_42 (ab_cn2 abLF_12_45 (ab_cn2 abLF_12_48 (ab_cn2 abLF_12_51 (ab_cn2 abLF_12_54 (ab_cn2 abLF_12_57 (ab_cn2 abLF_12_60 (ab_cn2 abLF_12_63 (ab_cn2 abLF_12_66 (ab_cn2 abLF_12_69 (ab_cn2 abLF_12_72 (ab_cn2 abLF_12_79 (ab_cn2 abLF_12_83 (ab_cn2 abLF_12_87 (ab_cn2 abLF_12_96 (ab_cn2 abLF_12_99 (ab_cn2 abLF_12_105 (ab_cn2 abLF_12_108 (ab_cn2 abLF_12_140 (ab_cn2 abLF_12_143 (ab_cn2 abLF_12_180 (ab_cn2 abLF_12_184 ab_nl)))))))))))))))))))))))))))))))
theorem abLF_13_7 : Cond.fieldLink "TimberHouseModel$Nails" 7 "TimberHouseModel$Nails" "text" "[I" ∈ abTW := ab_in14 63 rfl rfl
theorem abLF_13_13 : Cond.fieldLink "TimberHouseModel$Nails" 13 "TimberHouseModel$Nails" "draft" "[I" ∈ abTW := ab_in14 67 rfl rfl
theorem abLF_13_16 : Cond.fieldLink "TimberHouseModel$Nails" 16 "TimberHouseModel$Nails" "rules" "[I" ∈ abTW := ab_in14 68 rfl rfl
theorem abLF_13_19 : Cond.fieldLink "TimberHouseModel$Nails" 19 "TimberHouseModel$Nails" "letters" "[I" ∈ abTW := ab_in14 69 rfl rfl
theorem abLF_13_24 : Cond.fieldLink "TimberHouseModel$Nails" 24 "TimberHouseModel$Nails" "wet" "J" ∈ abTW := ab_in14 70 rfl rfl
theorem abLF_13_30 : Cond.fieldLink "TimberHouseModel$Nails" 30 "TimberHouseModel$Nails" "less" "J" ∈ abTW := ab_in14 71 rfl rfl
theorem abLF_13_33 : Cond.fieldLink "TimberHouseModel$Nails" 33 "TimberHouseModel$Nails" "patternKind" "I" ∈ abTW := ab_in14 72 rfl rfl
theorem abLF_13_37 : Cond.fieldLink "TimberHouseModel$Nails" 37 "TimberHouseModel$Nails" "patternAt" "[I" ∈ abTW := ab_in14 75 rfl rfl
theorem abLF_13_40 : Cond.fieldLink "TimberHouseModel$Nails" 40 "TimberHouseModel$Nails" "xs" "[I" ∈ abTW := ab_in14 77 rfl rfl
theorem abLF_13_43 : Cond.fieldLink "TimberHouseModel$Nails" 43 "TimberHouseModel$Nails" "ys" "[I" ∈ abTW := ab_in14 78 rfl rfl
theorem abLF_13_46 : Cond.fieldLink "TimberHouseModel$Nails" 46 "TimberHouseModel$Nails" "ends" "[I" ∈ abTW := ab_in14 80 rfl rfl
theorem abLF_13_49 : Cond.fieldLink "TimberHouseModel$Nails" 49 "TimberHouseModel$Nails" "wides" "[I" ∈ abTW := ab_in14 81 rfl rfl
theorem abLF_13_52 : Cond.fieldLink "TimberHouseModel$Nails" 52 "TimberHouseModel$Nails" "thrown" "I" ∈ abTW := ab_in14 62 rfl rfl
theorem abLF_13_55 : Cond.fieldLink "TimberHouseModel$Nails" 55 "TimberHouseModel$Nails" "size" "I" ∈ abTW := ab_in14 64 rfl rfl
theorem abLF_13_58 : Cond.fieldLink "TimberHouseModel$Nails" 58 "TimberHouseModel$Nails" "at" "I" ∈ abTW := ab_in14 65 rfl rfl
theorem abLF_13_61 : Cond.fieldLink "TimberHouseModel$Nails" 61 "TimberHouseModel$Nails" "fault" "I" ∈ abTW := ab_in14 66 rfl rfl
theorem abLF_13_133 : Cond.fieldLink "TimberHouseModel$Nails" 133 "TimberHouseModel$Nails" "patternMany" "I" ∈ abTW := ab_in14 73 rfl rfl
theorem abLF_13_136 : Cond.fieldLink "TimberHouseModel$Nails" 136 "TimberHouseModel$Nails" "columns" "I" ∈ abTW := ab_in14 74 rfl rfl
theorem abLF_13_139 : Cond.fieldLink "TimberHouseModel$Nails" 139 "TimberHouseModel$Nails" "places" "I" ∈ abTW := ab_in14 76 rfl rfl
theorem abLF_13_149 : Cond.fieldLink "TimberHouseModel$Nails" 149 "TimberHouseModel$Nails" "members" "I" ∈ abTW := ab_in14 79 rfl rfl
theorem abLF_a13 : ∀ q ∈ (abLF_l[13]?.getD []), abLF_P 13 q := ab_cn2 abLF_13_7 (ab_cn2 abLF_13_13 (ab_cn2 abLF_13_16 (ab_cn2 abLF_13_19 (ab_cn2 abLF_13_24 (ab_cn2 abLF_13_30 (ab_cn2 abLF_13_33 (ab_cn2 abLF_13_37 (ab_cn2 abLF_13_40 (ab_cn2 abLF_13_43 (ab_cn2 abLF_13_46 (ab_cn2 abLF_13_49 (ab_cn2 abLF_13_52 (ab_cn2 abLF_13_55 (ab_cn2 abLF_13_58 (ab_cn2 abLF_13_61 (ab_cn2 abLF_13_133 (ab_cn2 abLF_13_136 (ab_cn2 abLF_13_139 (ab_cn2 abLF_13_149 ab_nl)))))))))))))))))))
theorem abLF_14_7 : Cond.fieldLink "TimberHouseModel$Plans" 7 "TimberHouseModel$Plans" "kindOf" "[I" ∈ abTW := ab_in15 76 rfl rfl
theorem abLF_14_13 : Cond.fieldLink "TimberHouseModel$Plans" 13 "TimberHouseModel$Plans" "spans" "[I" ∈ abTW := ab_in15 77 rfl rfl
theorem abLF_14_16 : Cond.fieldLink "TimberHouseModel$Plans" 16 "TimberHouseModel$Plans" "outFrom" "[I" ∈ abTW := ab_in15 78 rfl rfl
theorem abLF_14_19 : Cond.fieldLink "TimberHouseModel$Plans" 19 "TimberHouseModel$Plans" "outTo" "[I" ∈ abTW := ab_in15 79 rfl rfl
theorem abLF_14_22 : Cond.fieldLink "TimberHouseModel$Plans" 22 "TimberHouseModel$Plans" "dues" "[I" ∈ abTW := ab_in15 81 rfl rfl
theorem abLF_14_25 : Cond.fieldLink "TimberHouseModel$Plans" 25 "TimberHouseModel$Plans" "weights" "[I" ∈ abTW := ab_in15 82 rfl rfl
theorem abLF_14_28 : Cond.fieldLink "TimberHouseModel$Plans" 28 "TimberHouseModel$Plans" "stepsOf" "[I" ∈ abTW := ab_in15 83 rfl rfl
theorem abLF_14_31 : Cond.fieldLink "TimberHouseModel$Plans" 31 "TimberHouseModel$Plans" "stepAt" "[I" ∈ abTW := ab_in15 84 rfl rfl
theorem abLF_14_34 : Cond.fieldLink "TimberHouseModel$Plans" 34 "TimberHouseModel$Plans" "jobOf" "[I" ∈ abTW := ab_in15 86 rfl rfl
theorem abLF_14_37 : Cond.fieldLink "TimberHouseModel$Plans" 37 "TimberHouseModel$Plans" "kinds" "[I" ∈ abTW := ab_in15 87 rfl rfl
theorem abLF_14_40 : Cond.fieldLink "TimberHouseModel$Plans" 40 "TimberHouseModel$Plans" "hours" "[I" ∈ abTW := ab_in15 88 rfl rfl
theorem abLF_14_43 : Cond.fieldLink "TimberHouseModel$Plans" 43 "TimberHouseModel$Plans" "waits" "[I" ∈ abTW := ab_in15 89 rfl rfl
theorem abLF_14_46 : Cond.fieldLink "TimberHouseModel$Plans" 46 "TimberHouseModel$Plans" "hour" "[I" ∈ abTW := ab_in15 91 rfl rfl
theorem abLF_14_49 : Cond.fieldLink "TimberHouseModel$Plans" 49 "TimberHouseModel$Plans" "machine" "[I" ∈ abTW := ab_in15 92 rfl rfl
theorem abLF_14_52 : Cond.fieldLink "TimberHouseModel$Plans" 52 "TimberHouseModel$Plans" "plan" "[I" ∈ abTW := ab_in15 96 rfl rfl
theorem abLF_14_55 : Cond.fieldLink "TimberHouseModel$Plans" 55 "TimberHouseModel$Plans" "planHour" "[I" ∈ abTW := ab_in15 97 rfl rfl
theorem abLF_14_58 : Cond.fieldLink "TimberHouseModel$Plans" 58 "TimberHouseModel$Plans" "planMachine" "[I" ∈ abTW := ab_in15 98 rfl rfl
theorem abLF_14_61 : Cond.fieldLink "TimberHouseModel$Plans" 61 "TimberHouseModel$Plans" "wasHour" "[I" ∈ abTW := ab_in15 99 rfl rfl
theorem abLF_14_64 : Cond.fieldLink "TimberHouseModel$Plans" 64 "TimberHouseModel$Plans" "wasMachine" "[I" ∈ abTW := ab_in15 100 rfl rfl
theorem abLF_14_67 : Cond.fieldLink "TimberHouseModel$Plans" 67 "TimberHouseModel$Plans" "row" "[I" ∈ abTW := ab_in15 105 rfl rfl
theorem abLF_14_70 : Cond.fieldLink "TimberHouseModel$Plans" 70 "TimberHouseModel$Plans" "tried" "[I" ∈ abTW := ab_in15 106 rfl rfl
theorem abLF_14_73 : Cond.fieldLink "TimberHouseModel$Plans" 73 "TimberHouseModel$Plans" "used" "[Z" ∈ abTW := ab_in15 107 rfl rfl
theorem abLF_14_77 : Cond.fieldLink "TimberHouseModel$Plans" 77 "TimberHouseModel$Plans" "x" "J" ∈ abTW := ab_in15 90 rfl rfl
theorem abLF_14_81 : Cond.fieldLink "TimberHouseModel$Plans" 81 "TimberHouseModel$Plans" "code" "I" ∈ abTW := ab_in15 74 rfl rfl
theorem abLF_14_89 : Cond.fieldLink "TimberHouseModel$Plans" 89 "TimberHouseModel$Plans" "machines" "I" ∈ abTW := ab_in15 75 rfl rfl
theorem abLF_14_92 : Cond.fieldLink "TimberHouseModel$Plans" 92 "TimberHouseModel$Plans" "fresh" "Z" ∈ abTW := ab_in15 94 rfl rfl
theorem abLF_14_96 : Cond.fieldLink "TimberHouseModel$Plans" 96 "TimberHouseModel$Plans" "jobs" "I" ∈ abTW := ab_in15 80 rfl rfl
theorem abLF_14_99 : Cond.fieldLink "TimberHouseModel$Plans" 99 "TimberHouseModel$Plans" "steps" "I" ∈ abTW := ab_in15 85 rfl rfl
theorem abLF_14_144 : Cond.fieldLink "TimberHouseModel$Plans" 144 "TimberHouseModel$Plans" "planned" "Z" ∈ abTW := ab_in15 93 rfl rfl
theorem abLF_a14 : ∀ q ∈ (abLF_l[14]?.getD []), abLF_P 14 q := ab_cn2 abLF_14_7 (ab_cn2 abLF_14_13 (ab_cn2 abLF_14_16 (ab_cn2 abLF_14_19 (ab_cn2 abLF_14_22 (ab_cn2 abLF_14_25 (ab_cn2 abLF_14_28 (ab_cn2 abLF_14_31 (ab_cn2 abLF_14_34 (ab_cn2 abLF_14_37 (ab_cn2 abLF_14_40 (ab_cn2 abLF_14_43 (ab_cn2 abLF_14_46 (ab_cn2 abLF_14_49 (ab_cn2 abLF_14_52 (ab_cn2 abLF_14_55 (ab_cn2 abLF_14_58 (ab_cn2 abLF_14_61 (ab_cn2 abLF_14_64 (ab_cn2 abLF_14_67 (ab_cn2 abLF_14_70 (ab_cn2 abLF_14_73 (ab_cn2 abLF_14_77 (ab_cn2 abLF_14_81 (ab_cn2 abLF_14_89 (ab_cn2 abLF_14_92 (ab_cn2 abLF_14_96 (ab_cn2 abLF_14_99 (ab_cn2 abLF_14_144 ab_nl))))))))))))))))))))))))))))
theorem abLF_15_7 : Cond.fieldLink "TimberHouseModel$Prices" 7 "TimberHouseModel$Prices" "text" "[I" ∈ abTW := ab_in15 184 rfl rfl
theorem abLF_15_13 : Cond.fieldLink "TimberHouseModel$Prices" 13 "TimberHouseModel$Prices" "signs" "[I" ∈ abTW := ab_in15 186 rfl rfl
theorem abLF_15_16 : Cond.fieldLink "TimberHouseModel$Prices" 16 "TimberHouseModel$Prices" "begins" "[I" ∈ abTW := ab_in15 187 rfl rfl
theorem abLF_15_19 : Cond.fieldLink "TimberHouseModel$Prices" 19 "TimberHouseModel$Prices" "draft" "[I" ∈ abTW := ab_in15 189 rfl rfl
theorem abLF_15_22 : Cond.fieldLink "TimberHouseModel$Prices" 22 "TimberHouseModel$Prices" "draftBegins" "[I" ∈ abTW := ab_in15 190 rfl rfl
theorem abLF_15_25 : Cond.fieldLink "TimberHouseModel$Prices" 25 "TimberHouseModel$Prices" "above" "[J" ∈ abTW := ab_in15 191 rfl rfl
theorem abLF_15_29 : Cond.fieldLink "TimberHouseModel$Prices" 29 "TimberHouseModel$Prices" "below" "[J" ∈ abTW := ab_in15 192 rfl rfl
theorem abLF_15_32 : Cond.fieldLink "TimberHouseModel$Prices" 32 "TimberHouseModel$Prices" "told" "[Z" ∈ abTW := ab_in15 193 rfl rfl
theorem abLF_15_36 : Cond.fieldLink "TimberHouseModel$Prices" 36 "TimberHouseModel$Prices" "tops" "[J" ∈ abTW := ab_in15 194 rfl rfl
theorem abLF_15_39 : Cond.fieldLink "TimberHouseModel$Prices" 39 "TimberHouseModel$Prices" "bottoms" "[J" ∈ abTW := ab_in15 195 rfl rfl
theorem abLF_15_42 : Cond.fieldLink "TimberHouseModel$Prices" 42 "TimberHouseModel$Prices" "addedTop" "[J" ∈ abTW := ab_in15 199 rfl rfl
theorem abLF_15_45 : Cond.fieldLink "TimberHouseModel$Prices" 45 "TimberHouseModel$Prices" "addedBottom" "[J" ∈ abTW := ab_in15 200 rfl rfl
theorem abLF_15_48 : Cond.fieldLink "TimberHouseModel$Prices" 48 "TimberHouseModel$Prices" "reasons" "[I" ∈ abTW := ab_in15 201 rfl rfl
theorem abLF_15_51 : Cond.fieldLink "TimberHouseModel$Prices" 51 "TimberHouseModel$Prices" "places" "[I" ∈ abTW := ab_in15 202 rfl rfl
theorem abLF_15_54 : Cond.fieldLink "TimberHouseModel$Prices" 54 "TimberHouseModel$Prices" "days" "[I" ∈ abTW := ab_in15 206 rfl rfl
theorem abLF_15_57 : Cond.fieldLink "TimberHouseModel$Prices" 57 "TimberHouseModel$Prices" "rowAbove" "[I" ∈ abTW := ab_in15 207 rfl rfl
theorem abLF_15_60 : Cond.fieldLink "TimberHouseModel$Prices" 60 "TimberHouseModel$Prices" "rowBelow" "[I" ∈ abTW := ab_in15 208 rfl rfl
theorem abLF_15_63 : Cond.fieldLink "TimberHouseModel$Prices" 63 "TimberHouseModel$Prices" "offerCents" "[J" ∈ abTW := ab_in15 210 rfl rfl
theorem abLF_15_66 : Cond.fieldLink "TimberHouseModel$Prices" 66 "TimberHouseModel$Prices" "untils" "[I" ∈ abTW := ab_in15 211 rfl rfl
theorem abLF_15_69 : Cond.fieldLink "TimberHouseModel$Prices" 69 "TimberHouseModel$Prices" "lefts" "[J" ∈ abTW := ab_in15 213 rfl rfl
theorem abLF_15_72 : Cond.fieldLink "TimberHouseModel$Prices" 72 "TimberHouseModel$Prices" "many" "[J" ∈ abTW := ab_in15 214 rfl rfl
theorem abLF_15_75 : Cond.fieldLink "TimberHouseModel$Prices" 75 "TimberHouseModel$Prices" "sums" "[J" ∈ abTW := ab_in15 215 rfl rfl
theorem abLF_15_78 : Cond.fieldLink "TimberHouseModel$Prices" 78 "TimberHouseModel$Prices" "thrown" "I" ∈ abTW := ab_in15 183 rfl rfl
theorem abLF_15_90 : Cond.fieldLink "TimberHouseModel$Prices" 90 "TimberHouseModel$Prices" "size" "I" ∈ abTW := ab_in15 185 rfl rfl
theorem abLF_15_104 : Cond.fieldLink "TimberHouseModel$Prices" 104 "TimberHouseModel$Prices" "draftLines" "I" ∈ abTW := ab_in15 216 rfl rfl
theorem abLF_15_111 : Cond.fieldLink "TimberHouseModel$Prices" 111 "TimberHouseModel$Prices" "lines" "I" ∈ abTW := ab_in15 188 rfl rfl
theorem abLF_15_117 : Cond.fieldLink "TimberHouseModel$Prices" 117 "TimberHouseModel$Prices" "top" "J" ∈ abTW := ab_in15 203 rfl rfl
theorem abLF_15_121 : Cond.fieldLink "TimberHouseModel$Prices" 121 "TimberHouseModel$Prices" "bottom" "J" ∈ abTW := ab_in15 204 rfl rfl
theorem abLF_15_150 : Cond.fieldLink "TimberHouseModel$Prices" 150 "TimberHouseModel$Prices" "totalTop" "J" ∈ abTW := ab_in15 197 rfl rfl
theorem abLF_15_153 : Cond.fieldLink "TimberHouseModel$Prices" 153 "TimberHouseModel$Prices" "totalBottom" "J" ∈ abTW := ab_in15 198 rfl rfl
theorem abLF_15_195 : Cond.fieldLink "TimberHouseModel$Prices" 195 "TimberHouseModel$Prices" "rows" "I" ∈ abTW := ab_in15 205 rfl rfl
theorem abLF_15_204 : Cond.fieldLink "TimberHouseModel$Prices" 204 "TimberHouseModel$Prices" "offers" "I" ∈ abTW := ab_in15 209 rfl rfl
theorem abLF_15_213 : Cond.fieldLink "TimberHouseModel$Prices" 213 "TimberHouseModel$Prices" "invoices" "I" ∈ abTW := ab_in15 212 rfl rfl
theorem abLF_a15 : ∀ q ∈ (abLF_l[15]?.getD []), abLF_P 15 q := ab_cn2 abLF_15_7 (ab_cn2 abLF_15_13 (ab_cn2 abLF_15_16 (ab_cn2 abLF_15_19 (ab_cn2 abLF_15_22 (ab_cn2 abLF_15_25 (ab_cn2 abLF_15_29 (ab_cn2 abLF_15_32 (ab_cn2 abLF_15_36 (ab_cn2 abLF_15_39 (ab_cn2 abLF_15_42 (ab_cn2 abLF_15_45 (ab_cn2 abLF_15_48 (ab_cn2 abLF_15_51 (ab_cn2 abLF_15_54 (ab_cn2 abLF_15_57 (ab_cn2 abLF_15_60 (ab_cn2 abLF_15_63 (ab_cn2 abLF_15_66 (ab_cn2 abLF_15_69 (ab_cn2 abLF_15_72 (ab_cn2 abLF_15_75 (ab_cn2 abLF_15_78 (ab_cn2 abLF_15_90 (ab_cn2 abLF_15_104 (ab_cn2 abLF_15_111 (ab_cn2 abLF_15_117 (ab_cn2 abLF_15_121 (ab_cn2 abLF_15_150 (ab_cn2 abLF_15_153 (ab_cn2 abLF_15_195 (ab_cn2 abLF_15_204 (ab_cn2 abLF_15_213 ab_nl))))))))))))))))))))))))))))))))
theorem abLF_16_7 : Cond.fieldLink "TimberHouseModel$Rips" 7 "TimberHouseModel$Rips" "faces" "[I" ∈ abTW := ab_in12 193 rfl rfl
theorem abLF_16_13 : Cond.fieldLink "TimberHouseModel$Rips" 13 "TimberHouseModel$Rips" "kinds" "[I" ∈ abTW := ab_in12 194 rfl rfl
theorem abLF_16_16 : Cond.fieldLink "TimberHouseModel$Rips" 16 "TimberHouseModel$Rips" "fx" "[I" ∈ abTW := ab_in12 195 rfl rfl
theorem abLF_16_19 : Cond.fieldLink "TimberHouseModel$Rips" 19 "TimberHouseModel$Rips" "fy" "[I" ∈ abTW := ab_in12 196 rfl rfl
theorem abLF_16_22 : Cond.fieldLink "TimberHouseModel$Rips" 22 "TimberHouseModel$Rips" "fw" "[I" ∈ abTW := ab_in12 197 rfl rfl
theorem abLF_16_25 : Cond.fieldLink "TimberHouseModel$Rips" 25 "TimberHouseModel$Rips" "fh" "[I" ∈ abTW := ab_in12 198 rfl rfl
theorem abLF_16_28 : Cond.fieldLink "TimberHouseModel$Rips" 28 "TimberHouseModel$Rips" "widths" "[I" ∈ abTW := ab_in12 200 rfl rfl
theorem abLF_16_31 : Cond.fieldLink "TimberHouseModel$Rips" 31 "TimberHouseModel$Rips" "lows" "[I" ∈ abTW := ab_in12 201 rfl rfl
theorem abLF_16_34 : Cond.fieldLink "TimberHouseModel$Rips" 34 "TimberHouseModel$Rips" "highs" "[I" ∈ abTW := ab_in12 202 rfl rfl
theorem abLF_16_37 : Cond.fieldLink "TimberHouseModel$Rips" 37 "TimberHouseModel$Rips" "worths" "[J" ∈ abTW := ab_in12 203 rfl rfl
theorem abLF_16_41 : Cond.fieldLink "TimberHouseModel$Rips" 41 "TimberHouseModel$Rips" "allowed" "[Z" ∈ abTW := ab_in12 204 rfl rfl
theorem abLF_16_45 : Cond.fieldLink "TimberHouseModel$Rips" 45 "TimberHouseModel$Rips" "needs" "[I" ∈ abTW := ab_in12 205 rfl rfl
theorem abLF_16_48 : Cond.fieldLink "TimberHouseModel$Rips" 48 "TimberHouseModel$Rips" "prices" "[J" ∈ abTW := ab_in12 206 rfl rfl
theorem abLF_16_51 : Cond.fieldLink "TimberHouseModel$Rips" 51 "TimberHouseModel$Rips" "lastPrices" "[J" ∈ abTW := ab_in12 207 rfl rfl
theorem abLF_16_55 : Cond.fieldLink "TimberHouseModel$Rips" 55 "TimberHouseModel$Rips" "gangs" "[Z" ∈ abTW := ab_in12 208 rfl rfl
theorem abLF_16_59 : Cond.fieldLink "TimberHouseModel$Rips" 59 "TimberHouseModel$Rips" "bow" "I" ∈ abTW := ab_in12 211 rfl rfl
theorem abLF_16_64 : Cond.fieldLink "TimberHouseModel$Rips" 64 "TimberHouseModel$Rips" "value0" "[J" ∈ abTW := ab_in12 212 rfl rfl
theorem abLF_16_67 : Cond.fieldLink "TimberHouseModel$Rips" 67 "TimberHouseModel$Rips" "count0" "[I" ∈ abTW := ab_in12 213 rfl rfl
theorem abLF_16_70 : Cond.fieldLink "TimberHouseModel$Rips" 70 "TimberHouseModel$Rips" "which0" "[I" ∈ abTW := ab_in12 214 rfl rfl
theorem abLF_16_73 : Cond.fieldLink "TimberHouseModel$Rips" 73 "TimberHouseModel$Rips" "value1" "[J" ∈ abTW := ab_in12 215 rfl rfl
theorem abLF_16_76 : Cond.fieldLink "TimberHouseModel$Rips" 76 "TimberHouseModel$Rips" "count1" "[I" ∈ abTW := ab_in12 216 rfl rfl
theorem abLF_16_79 : Cond.fieldLink "TimberHouseModel$Rips" 79 "TimberHouseModel$Rips" "value2" "[J" ∈ abTW := ab_in12 217 rfl rfl
theorem abLF_16_82 : Cond.fieldLink "TimberHouseModel$Rips" 82 "TimberHouseModel$Rips" "count2" "[I" ∈ abTW := ab_in12 218 rfl rfl
theorem abLF_16_85 : Cond.fieldLink "TimberHouseModel$Rips" 85 "TimberHouseModel$Rips" "rest" "[J" ∈ abTW := ab_in12 219 rfl rfl
theorem abLF_16_88 : Cond.fieldLink "TimberHouseModel$Rips" 88 "TimberHouseModel$Rips" "restCount" "[I" ∈ abTW := ab_in12 220 rfl rfl
theorem abLF_16_91 : Cond.fieldLink "TimberHouseModel$Rips" 91 "TimberHouseModel$Rips" "stages" "I" ∈ abTW := ab_in12 223 rfl rfl
theorem abLF_16_94 : Cond.fieldLink "TimberHouseModel$Rips" 94 "TimberHouseModel$Rips" "px" "[I" ∈ abTW := ab_in12 225 rfl rfl
theorem abLF_16_97 : Cond.fieldLink "TimberHouseModel$Rips" 97 "TimberHouseModel$Rips" "py" "[I" ∈ abTW := ab_in12 226 rfl rfl
theorem abLF_16_100 : Cond.fieldLink "TimberHouseModel$Rips" 100 "TimberHouseModel$Rips" "pdx" "[I" ∈ abTW := ab_in12 227 rfl rfl
theorem abLF_16_103 : Cond.fieldLink "TimberHouseModel$Rips" 103 "TimberHouseModel$Rips" "pdy" "[I" ∈ abTW := ab_in12 228 rfl rfl
theorem abLF_16_106 : Cond.fieldLink "TimberHouseModel$Rips" 106 "TimberHouseModel$Rips" "pwhich" "[I" ∈ abTW := ab_in12 229 rfl rfl
theorem abLF_16_109 : Cond.fieldLink "TimberHouseModel$Rips" 109 "TimberHouseModel$Rips" "kept" "[I" ∈ abTW := ab_in12 231 rfl rfl
theorem abLF_16_112 : Cond.fieldLink "TimberHouseModel$Rips" 112 "TimberHouseModel$Rips" "covered" "[Z" ∈ abTW := ab_in12 233 rfl rfl
theorem abLF_16_115 : Cond.fieldLink "TimberHouseModel$Rips" 115 "TimberHouseModel$Rips" "fewest" "[I" ∈ abTW := ab_in12 234 rfl rfl
theorem abLF_16_122 : Cond.fieldLink "TimberHouseModel$Rips" 122 "TimberHouseModel$Rips" "step" "I" ∈ abTW := ab_in12 189 rfl rfl
theorem abLF_16_125 : Cond.fieldLink "TimberHouseModel$Rips" 125 "TimberHouseModel$Rips" "along" "I" ∈ abTW := ab_in12 190 rfl rfl
theorem abLF_16_128 : Cond.fieldLink "TimberHouseModel$Rips" 128 "TimberHouseModel$Rips" "across" "I" ∈ abTW := ab_in12 191 rfl rfl
theorem abLF_16_132 : Cond.fieldLink "TimberHouseModel$Rips" 132 "TimberHouseModel$Rips" "code" "I" ∈ abTW := ab_in12 188 rfl rfl
theorem abLF_16_135 : Cond.fieldLink "TimberHouseModel$Rips" 135 "TimberHouseModel$Rips" "made" "Z" ∈ abTW := ab_in12 221 rfl rfl
theorem abLF_16_149 : Cond.fieldLink "TimberHouseModel$Rips" 149 "TimberHouseModel$Rips" "faults" "I" ∈ abTW := ab_in12 192 rfl rfl
theorem abLF_16_158 : Cond.fieldLink "TimberHouseModel$Rips" 158 "TimberHouseModel$Rips" "pieces" "I" ∈ abTW := ab_in12 199 rfl rfl
theorem abLF_16_168 : Cond.fieldLink "TimberHouseModel$Rips" 168 "TimberHouseModel$Rips" "ganged" "Z" ∈ abTW := ab_in12 209 rfl rfl
theorem abLF_16_173 : Cond.fieldLink "TimberHouseModel$Rips" 173 "TimberHouseModel$Rips" "margin" "I" ∈ abTW := ab_in12 210 rfl rfl
theorem abLF_16_193 : Cond.fieldLink "TimberHouseModel$Rips" 193 "TimberHouseModel$Rips" "way" "I" ∈ abTW := ab_in12 222 rfl rfl
theorem abLF_16_219 : Cond.fieldLink "TimberHouseModel$Rips" 219 "TimberHouseModel$Rips" "size" "I" ∈ abTW := ab_in12 224 rfl rfl
theorem abLF_16_253 : Cond.fieldLink "TimberHouseModel$Rips" 253 "TimberHouseModel$Rips" "bound" "J" ∈ abTW := ab_in12 232 rfl rfl
theorem abLF_16_260 : Cond.fieldLink "TimberHouseModel$Rips" 260 "TimberHouseModel$Rips" "keptSize" "I" ∈ abTW := ab_in12 230 rfl rfl
theorem abLF_a16 : ∀ q ∈ (abLF_l[16]?.getD []), abLF_P 16 q := ab_cn2 abLF_16_7 (ab_cn2 abLF_16_13 (ab_cn2 abLF_16_16 (ab_cn2 abLF_16_19 (ab_cn2 abLF_16_22 (ab_cn2 abLF_16_25 (ab_cn2 abLF_16_28 (ab_cn2 abLF_16_31 (ab_cn2 abLF_16_34 (ab_cn2 abLF_16_37 (ab_cn2 abLF_16_41 (ab_cn2 abLF_16_45 (ab_cn2 abLF_16_48 (ab_cn2 abLF_16_51 (ab_cn2 abLF_16_55 (ab_cn2 abLF_16_59 (ab_cn2 abLF_16_64 (ab_cn2 abLF_16_67 (ab_cn2 abLF_16_70 (ab_cn2 abLF_16_73 (ab_cn2 abLF_16_76 (ab_cn2 abLF_16_79 (ab_cn2 abLF_16_82 (ab_cn2 abLF_16_85 (ab_cn2 abLF_16_88 (ab_cn2 abLF_16_91 (ab_cn2 abLF_16_94 (ab_cn2 abLF_16_97 (ab_cn2 abLF_16_100 (ab_cn2 abLF_16_103 (ab_cn2 abLF_16_106 (ab_cn2 abLF_16_109 (ab_cn2 abLF_16_112 (ab_cn2 abLF_16_115 (ab_cn2 abLF_16_122 (ab_cn2 abLF_16_125 (ab_cn2 abLF_16_128 (ab_cn2 abLF_16_132 (ab_cn2 abLF_16_135 (ab_cn2 abLF_16_149 (ab_cn2 abLF_16_158 (ab_cn2 abLF_16_168 (ab_cn2 abLF_16_173 (ab_cn2 abLF_16_193 (ab_cn2 abLF_16_219 (ab_cn2 abLF_16_253 (ab_cn2 abLF_16_260 ab_nl))))))))))))))))))))))))))))))))))))))))))))))
theorem abLF_17_7 : Cond.fieldLink "TimberHouseModel$Router" 7 "TimberHouseModel$Router" "heights" "[I" ∈ abTW := ab_in15 0 rfl rfl
theorem abLF_17_13 : Cond.fieldLink "TimberHouseModel$Router" 13 "TimberHouseModel$Router" "targets" "[I" ∈ abTW := ab_in15 1 rfl rfl
theorem abLF_17_16 : Cond.fieldLink "TimberHouseModel$Router" 16 "TimberHouseModel$Router" "kept" "[Z" ∈ abTW := ab_in15 2 rfl rfl
theorem abLF_17_20 : Cond.fieldLink "TimberHouseModel$Router" 20 "TimberHouseModel$Router" "radius" "[I" ∈ abTW := ab_in15 3 rfl rfl
theorem abLF_17_23 : Cond.fieldLink "TimberHouseModel$Router" 23 "TimberHouseModel$Router" "feeds" "[I" ∈ abTW := ab_in15 4 rfl rfl
theorem abLF_17_26 : Cond.fieldLink "TimberHouseModel$Router" 26 "TimberHouseModel$Router" "text" "[I" ∈ abTW := ab_in15 5 rfl rfl
theorem abLF_17_29 : Cond.fieldLink "TimberHouseModel$Router" 29 "TimberHouseModel$Router" "program" "[I" ∈ abTW := ab_in15 9 rfl rfl
theorem abLF_17_32 : Cond.fieldLink "TimberHouseModel$Router" 32 "TimberHouseModel$Router" "draft" "[I" ∈ abTW := ab_in15 10 rfl rfl
theorem abLF_17_35 : Cond.fieldLink "TimberHouseModel$Router" 35 "TimberHouseModel$Router" "where" "[I" ∈ abTW := ab_in15 14 rfl rfl
theorem abLF_17_38 : Cond.fieldLink "TimberHouseModel$Router" 38 "TimberHouseModel$Router" "about" "[I" ∈ abTW := ab_in15 16 rfl rfl
theorem abLF_17_41 : Cond.fieldLink "TimberHouseModel$Router" 41 "TimberHouseModel$Router" "stack" "[I" ∈ abTW := ab_in15 17 rfl rfl
theorem abLF_17_44 : Cond.fieldLink "TimberHouseModel$Router" 44 "TimberHouseModel$Router" "seen" "[Z" ∈ abTW := ab_in15 18 rfl rfl
theorem abLF_17_47 : Cond.fieldLink "TimberHouseModel$Router" 47 "TimberHouseModel$Router" "begin" "[I" ∈ abTW := ab_in15 19 rfl rfl
theorem abLF_17_50 : Cond.fieldLink "TimberHouseModel$Router" 50 "TimberHouseModel$Router" "gap" "[I" ∈ abTW := ab_in15 20 rfl rfl
theorem abLF_17_53 : Cond.fieldLink "TimberHouseModel$Router" 53 "TimberHouseModel$Router" "side" "I" ∈ abTW := ab_in14 239 rfl rfl
theorem abLF_17_57 : Cond.fieldLink "TimberHouseModel$Router" 57 "TimberHouseModel$Router" "thrown" "I" ∈ abTW := ab_in14 238 rfl rfl
theorem abLF_17_72 : Cond.fieldLink "TimberHouseModel$Router" 72 "TimberHouseModel$Router" "size" "I" ∈ abTW := ab_in15 6 rfl rfl
theorem abLF_17_75 : Cond.fieldLink "TimberHouseModel$Router" 75 "TimberHouseModel$Router" "at" "I" ∈ abTW := ab_in15 7 rfl rfl
theorem abLF_17_78 : Cond.fieldLink "TimberHouseModel$Router" 78 "TimberHouseModel$Router" "fault" "I" ∈ abTW := ab_in15 8 rfl rfl
theorem abLF_17_106 : Cond.fieldLink "TimberHouseModel$Router" 106 "TimberHouseModel$Router" "hasProgram" "Z" ∈ abTW := ab_in15 12 rfl rfl
theorem abLF_17_128 : Cond.fieldLink "TimberHouseModel$Router" 128 "TimberHouseModel$Router" "hasRun" "Z" ∈ abTW := ab_in15 13 rfl rfl
theorem abLF_a17 : ∀ q ∈ (abLF_l[17]?.getD []), abLF_P 17 q := ab_cn2 abLF_17_7 (ab_cn2 abLF_17_13 (ab_cn2 abLF_17_16 (ab_cn2 abLF_17_20 (ab_cn2 abLF_17_23 (ab_cn2 abLF_17_26 (ab_cn2 abLF_17_29 (ab_cn2 abLF_17_32 (ab_cn2 abLF_17_35 (ab_cn2 abLF_17_38 (ab_cn2 abLF_17_41 (ab_cn2 abLF_17_44 (ab_cn2 abLF_17_47 (ab_cn2 abLF_17_50 (ab_cn2 abLF_17_53 (ab_cn2 abLF_17_57 (ab_cn2 abLF_17_72 (ab_cn2 abLF_17_75 (ab_cn2 abLF_17_78 (ab_cn2 abLF_17_106 (ab_cn2 abLF_17_128 ab_nl))))))))))))))))))))
theorem abLF_18_7 : Cond.fieldLink "TimberHouseModel$Saw" 7 "TimberHouseModel$Saw" "ins" "[Z" ∈ abTW := ab_in12 110 rfl rfl
theorem abLF_18_13 : Cond.fieldLink "TimberHouseModel$Saw" 13 "TimberHouseModel$Saw" "knots" "[I" ∈ abTW := ab_in12 111 rfl rfl
theorem abLF_18_17 : Cond.fieldLink "TimberHouseModel$Saw" 17 "TimberHouseModel$Saw" "thicks" "[I" ∈ abTW := ab_in12 113 rfl rfl
theorem abLF_18_20 : Cond.fieldLink "TimberHouseModel$Saw" 20 "TimberHouseModel$Saw" "wides" "[I" ∈ abTW := ab_in12 114 rfl rfl
theorem abLF_18_23 : Cond.fieldLink "TimberHouseModel$Saw" 23 "TimberHouseModel$Saw" "worths" "[I" ∈ abTW := ab_in12 115 rfl rfl
theorem abLF_18_26 : Cond.fieldLink "TimberHouseModel$Saw" 26 "TimberHouseModel$Saw" "wanes" "[I" ∈ abTW := ab_in12 116 rfl rfl
theorem abLF_18_29 : Cond.fieldLink "TimberHouseModel$Saw" 29 "TimberHouseModel$Saw" "bare" "[I" ∈ abTW := ab_in12 117 rfl rfl
theorem abLF_18_32 : Cond.fieldLink "TimberHouseModel$Saw" 32 "TimberHouseModel$Saw" "losses" "[I" ∈ abTW := ab_in12 118 rfl rfl
theorem abLF_18_35 : Cond.fieldLink "TimberHouseModel$Saw" 35 "TimberHouseModel$Saw" "slabWorth" "[I" ∈ abTW := ab_in12 119 rfl rfl
theorem abLF_18_38 : Cond.fieldLink "TimberHouseModel$Saw" 38 "TimberHouseModel$Saw" "slabCount" "[I" ∈ abTW := ab_in12 120 rfl rfl
theorem abLF_18_41 : Cond.fieldLink "TimberHouseModel$Saw" 41 "TimberHouseModel$Saw" "rowWorth" "[I" ∈ abTW := ab_in12 121 rfl rfl
theorem abLF_18_44 : Cond.fieldLink "TimberHouseModel$Saw" 44 "TimberHouseModel$Saw" "rowCount" "[I" ∈ abTW := ab_in12 122 rfl rfl
theorem abLF_18_47 : Cond.fieldLink "TimberHouseModel$Saw" 47 "TimberHouseModel$Saw" "at" "[I" ∈ abTW := ab_in12 128 rfl rfl
theorem abLF_18_50 : Cond.fieldLink "TimberHouseModel$Saw" 50 "TimberHouseModel$Saw" "side" "I" ∈ abTW := ab_in12 108 rfl rfl
theorem abLF_18_54 : Cond.fieldLink "TimberHouseModel$Saw" 54 "TimberHouseModel$Saw" "kerf" "I" ∈ abTW := ab_in12 109 rfl rfl
theorem abLF_18_57 : Cond.fieldLink "TimberHouseModel$Saw" 57 "TimberHouseModel$Saw" "thrown" "I" ∈ abTW := ab_in12 107 rfl rfl
theorem abLF_18_68 : Cond.fieldLink "TimberHouseModel$Saw" 68 "TimberHouseModel$Saw" "sawn" "Z" ∈ abTW := ab_in12 123 rfl rfl
theorem abLF_18_73 : Cond.fieldLink "TimberHouseModel$Saw" 73 "TimberHouseModel$Saw" "sizes" "I" ∈ abTW := ab_in12 112 rfl rfl
theorem abLF_18_133 : Cond.fieldLink "TimberHouseModel$Saw" 133 "TimberHouseModel$Saw" "boards" "I" ∈ abTW := ab_in12 127 rfl rfl
theorem abLF_18_140 : Cond.fieldLink "TimberHouseModel$Saw" 140 "TimberHouseModel$Saw" "slabs" "I" ∈ abTW := ab_in12 126 rfl rfl
theorem abLF_18_150 : Cond.fieldLink "TimberHouseModel$Saw" 150 "TimberHouseModel$Saw" "turn" "I" ∈ abTW := ab_in12 124 rfl rfl
theorem abLF_18_153 : Cond.fieldLink "TimberHouseModel$Saw" 153 "TimberHouseModel$Saw" "total" "I" ∈ abTW := ab_in12 125 rfl rfl
theorem abLF_a18 : ∀ q ∈ (abLF_l[18]?.getD []), abLF_P 18 q := ab_cn2 abLF_18_7 (ab_cn2 abLF_18_13 (ab_cn2 abLF_18_17 (ab_cn2 abLF_18_20 (ab_cn2 abLF_18_23 (ab_cn2 abLF_18_26 (ab_cn2 abLF_18_29 (ab_cn2 abLF_18_32 (ab_cn2 abLF_18_35 (ab_cn2 abLF_18_38 (ab_cn2 abLF_18_41 (ab_cn2 abLF_18_44 (ab_cn2 abLF_18_47 (ab_cn2 abLF_18_50 (ab_cn2 abLF_18_54 (ab_cn2 abLF_18_57 (ab_cn2 abLF_18_68 (ab_cn2 abLF_18_73 (ab_cn2 abLF_18_133 (ab_cn2 abLF_18_140 (ab_cn2 abLF_18_150 (ab_cn2 abLF_18_153 ab_nl)))))))))))))))))))))
theorem abLF_19_7 : Cond.fieldLink "TimberHouseModel$Sheets" 7 "TimberHouseModel$Sheets" "sheetWidth" "[I" ∈ abTW := ab_in14 134 rfl rfl
theorem abLF_19_13 : Cond.fieldLink "TimberHouseModel$Sheets" 13 "TimberHouseModel$Sheets" "sheetHeight" "[I" ∈ abTW := ab_in14 135 rfl rfl
theorem abLF_19_16 : Cond.fieldLink "TimberHouseModel$Sheets" 16 "TimberHouseModel$Sheets" "cents" "[I" ∈ abTW := ab_in14 136 rfl rfl
theorem abLF_19_19 : Cond.fieldLink "TimberHouseModel$Sheets" 19 "TimberHouseModel$Sheets" "stock" "[I" ∈ abTW := ab_in14 137 rfl rfl
theorem abLF_19_22 : Cond.fieldLink "TimberHouseModel$Sheets" 22 "TimberHouseModel$Sheets" "partWidth" "[I" ∈ abTW := ab_in14 139 rfl rfl
theorem abLF_19_25 : Cond.fieldLink "TimberHouseModel$Sheets" 25 "TimberHouseModel$Sheets" "partHeight" "[I" ∈ abTW := ab_in14 140 rfl rfl
theorem abLF_19_28 : Cond.fieldLink "TimberHouseModel$Sheets" 28 "TimberHouseModel$Sheets" "counts" "[I" ∈ abTW := ab_in14 141 rfl rfl
theorem abLF_19_31 : Cond.fieldLink "TimberHouseModel$Sheets" 31 "TimberHouseModel$Sheets" "turns" "[Z" ∈ abTW := ab_in14 142 rfl rfl
theorem abLF_19_35 : Cond.fieldLink "TimberHouseModel$Sheets" 35 "TimberHouseModel$Sheets" "wanted" "[I" ∈ abTW := ab_in14 143 rfl rfl
theorem abLF_19_38 : Cond.fieldLink "TimberHouseModel$Sheets" 38 "TimberHouseModel$Sheets" "inStock" "[I" ∈ abTW := ab_in14 144 rfl rfl
theorem abLF_19_41 : Cond.fieldLink "TimberHouseModel$Sheets" 41 "TimberHouseModel$Sheets" "still" "[I" ∈ abTW := ab_in14 145 rfl rfl
theorem abLF_19_44 : Cond.fieldLink "TimberHouseModel$Sheets" 44 "TimberHouseModel$Sheets" "values" "[I" ∈ abTW := ab_in14 146 rfl rfl
theorem abLF_19_47 : Cond.fieldLink "TimberHouseModel$Sheets" 47 "TimberHouseModel$Sheets" "cuts" "[I" ∈ abTW := ab_in14 147 rfl rfl
theorem abLF_19_50 : Cond.fieldLink "TimberHouseModel$Sheets" 50 "TimberHouseModel$Sheets" "choices" "[I" ∈ abTW := ab_in14 148 rfl rfl
theorem abLF_19_53 : Cond.fieldLink "TimberHouseModel$Sheets" 53 "TimberHouseModel$Sheets" "waiting" "[I" ∈ abTW := ab_in14 149 rfl rfl
theorem abLF_19_56 : Cond.fieldLink "TimberHouseModel$Sheets" 56 "TimberHouseModel$Sheets" "ofSheet" "[I" ∈ abTW := ab_in14 152 rfl rfl
theorem abLF_19_59 : Cond.fieldLink "TimberHouseModel$Sheets" 59 "TimberHouseModel$Sheets" "firstWay" "[I" ∈ abTW := ab_in14 153 rfl rfl
theorem abLF_19_62 : Cond.fieldLink "TimberHouseModel$Sheets" 62 "TimberHouseModel$Sheets" "cutCount" "[I" ∈ abTW := ab_in14 154 rfl rfl
theorem abLF_19_65 : Cond.fieldLink "TimberHouseModel$Sheets" 65 "TimberHouseModel$Sheets" "minutes" "[I" ∈ abTW := ab_in14 155 rfl rfl
theorem abLF_19_68 : Cond.fieldLink "TimberHouseModel$Sheets" 68 "TimberHouseModel$Sheets" "takenCount" "[I" ∈ abTW := ab_in14 156 rfl rfl
theorem abLF_19_71 : Cond.fieldLink "TimberHouseModel$Sheets" 71 "TimberHouseModel$Sheets" "takenArea" "[I" ∈ abTW := ab_in14 157 rfl rfl
theorem abLF_19_74 : Cond.fieldLink "TimberHouseModel$Sheets" 74 "TimberHouseModel$Sheets" "restCount" "[I" ∈ abTW := ab_in14 158 rfl rfl
theorem abLF_19_77 : Cond.fieldLink "TimberHouseModel$Sheets" 77 "TimberHouseModel$Sheets" "nodeCount" "[I" ∈ abTW := ab_in14 159 rfl rfl
theorem abLF_19_80 : Cond.fieldLink "TimberHouseModel$Sheets" 80 "TimberHouseModel$Sheets" "nodes" "[I" ∈ abTW := ab_in14 160 rfl rfl
theorem abLF_19_83 : Cond.fieldLink "TimberHouseModel$Sheets" 83 "TimberHouseModel$Sheets" "takens" "[I" ∈ abTW := ab_in14 161 rfl rfl
theorem abLF_19_86 : Cond.fieldLink "TimberHouseModel$Sheets" 86 "TimberHouseModel$Sheets" "rests" "[I" ∈ abTW := ab_in14 162 rfl rfl
theorem abLF_19_89 : Cond.fieldLink "TimberHouseModel$Sheets" 89 "TimberHouseModel$Sheets" "kerf" "I" ∈ abTW := ab_in14 130 rfl rfl
theorem abLF_19_93 : Cond.fieldLink "TimberHouseModel$Sheets" 93 "TimberHouseModel$Sheets" "stages" "I" ∈ abTW := ab_in14 131 rfl rfl
theorem abLF_19_96 : Cond.fieldLink "TimberHouseModel$Sheets" 96 "TimberHouseModel$Sheets" "least" "I" ∈ abTW := ab_in14 132 rfl rfl
theorem abLF_19_99 : Cond.fieldLink "TimberHouseModel$Sheets" 99 "TimberHouseModel$Sheets" "code" "I" ∈ abTW := ab_in14 129 rfl rfl
theorem abLF_19_106 : Cond.fieldLink "TimberHouseModel$Sheets" 106 "TimberHouseModel$Sheets" "sheets" "I" ∈ abTW := ab_in14 133 rfl rfl
theorem abLF_19_109 : Cond.fieldLink "TimberHouseModel$Sheets" 109 "TimberHouseModel$Sheets" "ran" "Z" ∈ abTW := ab_in14 150 rfl rfl
theorem abLF_19_113 : Cond.fieldLink "TimberHouseModel$Sheets" 113 "TimberHouseModel$Sheets" "parts" "I" ∈ abTW := ab_in14 138 rfl rfl
theorem abLF_19_152 : Cond.fieldLink "TimberHouseModel$Sheets" 152 "TimberHouseModel$Sheets" "done" "I" ∈ abTW := ab_in14 151 rfl rfl
theorem abLF_a19 : ∀ q ∈ (abLF_l[19]?.getD []), abLF_P 19 q := ab_cn2 abLF_19_7 (ab_cn2 abLF_19_13 (ab_cn2 abLF_19_16 (ab_cn2 abLF_19_19 (ab_cn2 abLF_19_22 (ab_cn2 abLF_19_25 (ab_cn2 abLF_19_28 (ab_cn2 abLF_19_31 (ab_cn2 abLF_19_35 (ab_cn2 abLF_19_38 (ab_cn2 abLF_19_41 (ab_cn2 abLF_19_44 (ab_cn2 abLF_19_47 (ab_cn2 abLF_19_50 (ab_cn2 abLF_19_53 (ab_cn2 abLF_19_56 (ab_cn2 abLF_19_59 (ab_cn2 abLF_19_62 (ab_cn2 abLF_19_65 (ab_cn2 abLF_19_68 (ab_cn2 abLF_19_71 (ab_cn2 abLF_19_74 (ab_cn2 abLF_19_77 (ab_cn2 abLF_19_80 (ab_cn2 abLF_19_83 (ab_cn2 abLF_19_86 (ab_cn2 abLF_19_89 (ab_cn2 abLF_19_93 (ab_cn2 abLF_19_96 (ab_cn2 abLF_19_99 (ab_cn2 abLF_19_106 (ab_cn2 abLF_19_109 (ab_cn2 abLF_19_113 (ab_cn2 abLF_19_152 ab_nl)))))))))))))))))))))))))))))))))
theorem abLF_20_7 : Cond.fieldLink "TimberHouseModel$Shop" 7 "TimberHouseModel$Shop" "tellers" "[I" ∈ abTW := ab_in16 56 rfl rfl
theorem abLF_20_13 : Cond.fieldLink "TimberHouseModel$Shop" 13 "TimberHouseModel$Shop" "numbers" "[J" ∈ abTW := ab_in16 57 rfl rfl
theorem abLF_20_17 : Cond.fieldLink "TimberHouseModel$Shop" 17 "TimberHouseModel$Shop" "things" "[I" ∈ abTW := ab_in16 58 rfl rfl
theorem abLF_20_20 : Cond.fieldLink "TimberHouseModel$Shop" 20 "TimberHouseModel$Shop" "kinds" "[I" ∈ abTW := ab_in16 59 rfl rfl
theorem abLF_20_23 : Cond.fieldLink "TimberHouseModel$Shop" 23 "TimberHouseModel$Shop" "values" "[J" ∈ abTW := ab_in16 60 rfl rfl
theorem abLF_20_26 : Cond.fieldLink "TimberHouseModel$Shop" 26 "TimberHouseModel$Shop" "ons" "[J" ∈ abTW := ab_in16 61 rfl rfl
theorem abLF_20_29 : Cond.fieldLink "TimberHouseModel$Shop" 29 "TimberHouseModel$Shop" "sizes" "[I" ∈ abTW := ab_in16 63 rfl rfl
theorem abLF_20_32 : Cond.fieldLink "TimberHouseModel$Shop" 32 "TimberHouseModel$Shop" "rows" "[I" ∈ abTW := ab_in16 64 rfl rfl
theorem abLF_20_35 : Cond.fieldLink "TimberHouseModel$Shop" 35 "TimberHouseModel$Shop" "batches" "[I" ∈ abTW := ab_in16 65 rfl rfl
theorem abLF_20_38 : Cond.fieldLink "TimberHouseModel$Shop" 38 "TimberHouseModel$Shop" "rights" "[Z" ∈ abTW := ab_in16 66 rfl rfl
theorem abLF_20_42 : Cond.fieldLink "TimberHouseModel$Shop" 42 "TimberHouseModel$Shop" "days" "[I" ∈ abTW := ab_in16 68 rfl rfl
theorem abLF_20_45 : Cond.fieldLink "TimberHouseModel$Shop" 45 "TimberHouseModel$Shop" "many" "[I" ∈ abTW := ab_in16 69 rfl rfl
theorem abLF_20_48 : Cond.fieldLink "TimberHouseModel$Shop" 48 "TimberHouseModel$Shop" "accounts" "[I" ∈ abTW := ab_in16 70 rfl rfl
theorem abLF_20_51 : Cond.fieldLink "TimberHouseModel$Shop" 51 "TimberHouseModel$Shop" "cents" "[J" ∈ abTW := ab_in16 71 rfl rfl
theorem abLF_20_54 : Cond.fieldLink "TimberHouseModel$Shop" 54 "TimberHouseModel$Shop" "closedAs" "[I" ∈ abTW := ab_in16 72 rfl rfl
theorem abLF_20_57 : Cond.fieldLink "TimberHouseModel$Shop" 57 "TimberHouseModel$Shop" "reversed" "[Z" ∈ abTW := ab_in16 73 rfl rfl
theorem abLF_20_60 : Cond.fieldLink "TimberHouseModel$Shop" 60 "TimberHouseModel$Shop" "closedMonth" "I" ∈ abTW := ab_in16 75 rfl rfl
theorem abLF_20_64 : Cond.fieldLink "TimberHouseModel$Shop" 64 "TimberHouseModel$Shop" "code" "I" ∈ abTW := ab_in16 54 rfl rfl
theorem abLF_20_67 : Cond.fieldLink "TimberHouseModel$Shop" 67 "TimberHouseModel$Shop" "told" "I" ∈ abTW := ab_in16 55 rfl rfl
theorem abLF_20_86 : Cond.fieldLink "TimberHouseModel$Shop" 86 "TimberHouseModel$Shop" "sets" "I" ∈ abTW := ab_in16 62 rfl rfl
theorem abLF_20_138 : Cond.fieldLink "TimberHouseModel$Shop" 138 "TimberHouseModel$Shop" "entries" "I" ∈ abTW := ab_in16 67 rfl rfl
theorem abLF_20_156 : Cond.fieldLink "TimberHouseModel$Shop" 156 "TimberHouseModel$Shop" "closed" "I" ∈ abTW := ab_in16 74 rfl rfl
theorem abLF_a20 : ∀ q ∈ (abLF_l[20]?.getD []), abLF_P 20 q := ab_cn2 abLF_20_7 (ab_cn2 abLF_20_13 (ab_cn2 abLF_20_17 (ab_cn2 abLF_20_20 (ab_cn2 abLF_20_23 (ab_cn2 abLF_20_26 (ab_cn2 abLF_20_29 (ab_cn2 abLF_20_32 (ab_cn2 abLF_20_35 (ab_cn2 abLF_20_38 (ab_cn2 abLF_20_42 (ab_cn2 abLF_20_45 (ab_cn2 abLF_20_48 (ab_cn2 abLF_20_51 (ab_cn2 abLF_20_54 (ab_cn2 abLF_20_57 (ab_cn2 abLF_20_60 (ab_cn2 abLF_20_64 (ab_cn2 abLF_20_67 (ab_cn2 abLF_20_86 (ab_cn2 abLF_20_138 (ab_cn2 abLF_20_156 ab_nl)))))))))))))))))))))
theorem abLF_21_7 : Cond.fieldLink "TimberHouseModel$Turned" 7 "TimberHouseModel$Turned" "at" "[I" ∈ abTW := ab_in13 219 rfl rfl
theorem abLF_21_13 : Cond.fieldLink "TimberHouseModel$Turned" 13 "TimberHouseModel$Turned" "end" "[I" ∈ abTW := ab_in13 220 rfl rfl
theorem abLF_21_16 : Cond.fieldLink "TimberHouseModel$Turned" 16 "TimberHouseModel$Turned" "sort" "[I" ∈ abTW := ab_in13 221 rfl rfl
theorem abLF_21_19 : Cond.fieldLink "TimberHouseModel$Turned" 19 "TimberHouseModel$Turned" "centre" "[I" ∈ abTW := ab_in13 222 rfl rfl
theorem abLF_21_22 : Cond.fieldLink "TimberHouseModel$Turned" 22 "TimberHouseModel$Turned" "high" "[I" ∈ abTW := ab_in13 223 rfl rfl
theorem abLF_21_25 : Cond.fieldLink "TimberHouseModel$Turned" 25 "TimberHouseModel$Turned" "length" "[I" ∈ abTW := ab_in13 225 rfl rfl
theorem abLF_21_28 : Cond.fieldLink "TimberHouseModel$Turned" 28 "TimberHouseModel$Turned" "made" "[I" ∈ abTW := ab_in13 226 rfl rfl
theorem abLF_21_31 : Cond.fieldLink "TimberHouseModel$Turned" 31 "TimberHouseModel$Turned" "radii" "[I" ∈ abTW := ab_in13 227 rfl rfl
theorem abLF_21_34 : Cond.fieldLink "TimberHouseModel$Turned" 34 "TimberHouseModel$Turned" "noses" "[I" ∈ abTW := ab_in13 229 rfl rfl
theorem abLF_21_37 : Cond.fieldLink "TimberHouseModel$Turned" 37 "TimberHouseModel$Turned" "lifts" "[I" ∈ abTW := ab_in13 230 rfl rfl
theorem abLF_21_40 : Cond.fieldLink "TimberHouseModel$Turned" 40 "TimberHouseModel$Turned" "reach" "[I" ∈ abTW := ab_in13 231 rfl rfl
theorem abLF_21_43 : Cond.fieldLink "TimberHouseModel$Turned" 43 "TimberHouseModel$Turned" "wedges" "[I" ∈ abTW := ab_in13 233 rfl rfl
theorem abLF_21_46 : Cond.fieldLink "TimberHouseModel$Turned" 46 "TimberHouseModel$Turned" "above" "[I" ∈ abTW := ab_in13 234 rfl rfl
theorem abLF_21_49 : Cond.fieldLink "TimberHouseModel$Turned" 49 "TimberHouseModel$Turned" "below" "[I" ∈ abTW := ab_in13 235 rfl rfl
theorem abLF_21_52 : Cond.fieldLink "TimberHouseModel$Turned" 52 "TimberHouseModel$Turned" "upTo" "[I" ∈ abTW := ab_in13 239 rfl rfl
theorem abLF_21_55 : Cond.fieldLink "TimberHouseModel$Turned" 55 "TimberHouseModel$Turned" "turns" "[I" ∈ abTW := ab_in14 0 rfl rfl
theorem abLF_21_58 : Cond.fieldLink "TimberHouseModel$Turned" 58 "TimberHouseModel$Turned" "code" "I" ∈ abTW := ab_in13 215 rfl rfl
theorem abLF_21_68 : Cond.fieldLink "TimberHouseModel$Turned" 68 "TimberHouseModel$Turned" "begun" "Z" ∈ abTW := ab_in13 216 rfl rfl
theorem abLF_21_72 : Cond.fieldLink "TimberHouseModel$Turned" 72 "TimberHouseModel$Turned" "first" "I" ∈ abTW := ab_in13 217 rfl rfl
theorem abLF_21_75 : Cond.fieldLink "TimberHouseModel$Turned" 75 "TimberHouseModel$Turned" "ways" "I" ∈ abTW := ab_in13 218 rfl rfl
theorem abLF_21_111 : Cond.fieldLink "TimberHouseModel$Turned" 111 "TimberHouseModel$Turned" "pieces" "I" ∈ abTW := ab_in13 224 rfl rfl
theorem abLF_21_132 : Cond.fieldLink "TimberHouseModel$Turned" 132 "TimberHouseModel$Turned" "tools" "I" ∈ abTW := ab_in13 228 rfl rfl
theorem abLF_21_160 : Cond.fieldLink "TimberHouseModel$Turned" 160 "TimberHouseModel$Turned" "rings" "I" ∈ abTW := ab_in13 232 rfl rfl
theorem abLF_21_181 : Cond.fieldLink "TimberHouseModel$Turned" 181 "TimberHouseModel$Turned" "pitchAbove" "I" ∈ abTW := ab_in13 236 rfl rfl
theorem abLF_21_184 : Cond.fieldLink "TimberHouseModel$Turned" 184 "TimberHouseModel$Turned" "pitchBelow" "I" ∈ abTW := ab_in13 237 rfl rfl
theorem abLF_21_187 : Cond.fieldLink "TimberHouseModel$Turned" 187 "TimberHouseModel$Turned" "rows" "I" ∈ abTW := ab_in13 238 rfl rfl
theorem abLF_a21 : ∀ q ∈ (abLF_l[21]?.getD []), abLF_P 21 q := ab_cn2 abLF_21_7 (ab_cn2 abLF_21_13 (ab_cn2 abLF_21_16 (ab_cn2 abLF_21_19 (ab_cn2 abLF_21_22 (ab_cn2 abLF_21_25 (ab_cn2 abLF_21_28 (ab_cn2 abLF_21_31 (ab_cn2 abLF_21_34 (ab_cn2 abLF_21_37 (ab_cn2 abLF_21_40 (ab_cn2 abLF_21_43 (ab_cn2 abLF_21_46 (ab_cn2 abLF_21_49 (ab_cn2 abLF_21_52 (ab_cn2 abLF_21_55 (ab_cn2 abLF_21_58 (ab_cn2 abLF_21_68 (ab_cn2 abLF_21_72 (ab_cn2 abLF_21_75 (ab_cn2 abLF_21_111 (ab_cn2 abLF_21_132 (ab_cn2 abLF_21_160 (ab_cn2 abLF_21_181 (ab_cn2 abLF_21_184 (ab_cn2 abLF_21_187 ab_nl)))))))))))))))))))))))))
theorem abLF_22_7 : Cond.fieldLink "TimberHouseModel" 7 "TimberHouseModel" "anews" "[I" ∈ abTW := ab_in16 122 rfl rfl
theorem abLF_22_18 : Cond.fieldLink "TimberHouseModel" 18 "TimberHouseModel" "saw" "LTimberHouseModel$Saw;" ∈ abTW := ab_in16 123 rfl rfl
theorem abLF_22_27 : Cond.fieldLink "TimberHouseModel" 27 "TimberHouseModel" "rips" "LTimberHouseModel$Rips;" ∈ abTW := ab_in16 124 rfl rfl
theorem abLF_22_34 : Cond.fieldLink "TimberHouseModel" 34 "TimberHouseModel" "fingers" "LTimberHouseModel$Fingers;" ∈ abTW := ab_in16 125 rfl rfl
theorem abLF_22_41 : Cond.fieldLink "TimberHouseModel" 41 "TimberHouseModel" "turned" "LTimberHouseModel$Turned;" ∈ abTW := ab_in16 126 rfl rfl
theorem abLF_22_48 : Cond.fieldLink "TimberHouseModel" 48 "TimberHouseModel" "nails" "LTimberHouseModel$Nails;" ∈ abTW := ab_in16 127 rfl rfl
theorem abLF_22_55 : Cond.fieldLink "TimberHouseModel" 55 "TimberHouseModel" "sheets" "LTimberHouseModel$Sheets;" ∈ abTW := ab_in16 128 rfl rfl
theorem abLF_22_64 : Cond.fieldLink "TimberHouseModel" 64 "TimberHouseModel" "router" "LTimberHouseModel$Router;" ∈ abTW := ab_in16 129 rfl rfl
theorem abLF_22_71 : Cond.fieldLink "TimberHouseModel" 71 "TimberHouseModel" "plans" "LTimberHouseModel$Plans;" ∈ abTW := ab_in16 130 rfl rfl
theorem abLF_22_78 : Cond.fieldLink "TimberHouseModel" 78 "TimberHouseModel" "prices" "LTimberHouseModel$Prices;" ∈ abTW := ab_in16 131 rfl rfl
theorem abLF_22_85 : Cond.fieldLink "TimberHouseModel" 85 "TimberHouseModel" "shop" "LTimberHouseModel$Shop;" ∈ abTW := ab_in16 132 rfl rfl
theorem abLF_22_89 : Cond.fieldLink "TimberHouseModel" 89 "TimberHouseModel" "side" "I" ∈ abTW := ab_in16 133 rfl rfl
theorem abLF_22_93 : Cond.fieldLink "TimberHouseModel" 93 "TimberHouseModel" "code" "I" ∈ abTW := ab_in16 121 rfl rfl
theorem abLF_22_639 : Cond.fieldLink "TimberHouseModel" 639 "TimberHouseModel" "written" "I" ∈ abTW := ab_in16 134 rfl rfl
theorem abLF_22_653 : Cond.fieldLink "TimberHouseModel" 653 "TimberHouseModel" "booked" "I" ∈ abTW := ab_in16 135 rfl rfl
theorem abLF_22_656 : Cond.fieldLink "TimberHouseModel" 656 "TimberHouseModel" "tellings" "I" ∈ abTW := ab_in16 136 rfl rfl
theorem abLF_a22 : ∀ q ∈ (abLF_l[22]?.getD []), abLF_P 22 q := ab_cn2 abLF_22_7 (ab_cn2 abLF_22_18 (ab_cn2 abLF_22_27 (ab_cn2 abLF_22_34 (ab_cn2 abLF_22_41 (ab_cn2 abLF_22_48 (ab_cn2 abLF_22_55 (ab_cn2 abLF_22_64 (ab_cn2 abLF_22_71 (ab_cn2 abLF_22_78 (ab_cn2 abLF_22_85 (ab_cn2 abLF_22_89 (ab_cn2 abLF_22_93 (ab_cn2 abLF_22_639 (ab_cn2 abLF_22_653 (ab_cn2 abLF_22_656 ab_nl)))))))))))))))
theorem abLF_a23 : ∀ q ∈ (abLF_l[23]?.getD []), abLF_P 23 q := ab_nl
theorem abLF_a24 : ∀ q ∈ (abLF_l[24]?.getD []), abLF_P 24 q := ab_nl
theorem abLF_ok : ∀ o, ∀ q ∈ abLF o, abLF_P o q := ab_fam (P := abLF_P) (L := abLF_l) (And.intro abLF_a0 (And.intro abLF_a1 (And.intro abLF_a2 (And.intro abLF_a3 (And.intro abLF_a4 (And.intro abLF_a5 (And.intro abLF_a6 (And.intro abLF_a7 (And.intro abLF_a8 (And.intro abLF_a9 (And.intro abLF_a10 (And.intro abLF_a11 (And.intro abLF_a12 (And.intro abLF_a13 (And.intro abLF_a14 (And.intro abLF_a15 (And.intro abLF_a16 (And.intro abLF_a17 (And.intro abLF_a18 (And.intro abLF_a19 (And.intro abLF_a20 (And.intro abLF_a21 (And.intro abLF_a22 (And.intro abLF_a23 (And.intro abLF_a24 (trivial))))))))))))))))))))))))))
def abLI_l : List (List (Nat × Int)) := [[(49, 65536), (163, 100000)], [(217, 100000)], [], [(206, (-1000000)), (207, 1000000), (238, 100000)], [(49, 65536), (89, 16777216), (174, (-65536)), (178, 100000)], [], [(128, 100000)], [], [], [], [(256, 100000)], [], [(86, 65536)], [], [], [], [(54, 65537), (58, 16777216), (63, 75625), (131, 65536)], [], [(72, 100000)], [], [], [], [], [], []]
noncomputable def abLI (o : Nat) : List (Nat × Int) := ab_row abLI_l o
def abLI_P (o : Nat) (q : Nat × Int) : Prop := Cond.constant (abCS o) q.1 (Int32.ofInt q.2) ∈ abTW
theorem abLI_0_49 : Cond.constant "TimberHouse$Fingers" 49 (Int32.ofInt 65536) ∈ abTW := by
  rw [show Int32.ofInt 65536 = 65536 from by decide]
  exact ab_in1 221 rfl rfl
theorem abLI_0_163 : Cond.constant "TimberHouse$Fingers" 163 (Int32.ofInt 100000) ∈ abTW := by
  rw [show Int32.ofInt 100000 = 100000 from by decide]
  exact ab_in7 193 rfl rfl
theorem abLI_a0 : ∀ q ∈ (abLI_l[0]?.getD []), abLI_P 0 q := ab_cn2 abLI_0_49 (ab_cn2 abLI_0_163 ab_nl)
theorem abLI_1_217 : Cond.constant "TimberHouse$Nails" 217 (Int32.ofInt 100000) ∈ abTW := by
  rw [show Int32.ofInt 100000 = 100000 from by decide]
  exact ab_in9 61 rfl rfl
theorem abLI_a1 : ∀ q ∈ (abLI_l[1]?.getD []), abLI_P 1 q := ab_cn2 abLI_1_217 ab_nl
theorem abLI_a2 : ∀ q ∈ (abLI_l[2]?.getD []), abLI_P 2 q := ab_nl
theorem abLI_3_206 : Cond.constant "TimberHouse$Prices" 206 (Int32.ofInt (-1000000)) ∈ abTW := by
  rw [show Int32.ofInt (-1000000) = (-1000000) from by decide]
  exact ab_in11 89 rfl rfl
theorem abLI_3_207 : Cond.constant "TimberHouse$Prices" 207 (Int32.ofInt 1000000) ∈ abTW := by
  rw [show Int32.ofInt 1000000 = 1000000 from by decide]
  exact ab_in11 90 rfl rfl
theorem abLI_3_238 : Cond.constant "TimberHouse$Prices" 238 (Int32.ofInt 100000) ∈ abTW := by
  rw [show Int32.ofInt 100000 = 100000 from by decide]
  exact ab_in11 187 rfl rfl
theorem abLI_a3 : ∀ q ∈ (abLI_l[3]?.getD []), abLI_P 3 q := ab_cn2 abLI_3_206 (ab_cn2 abLI_3_207 (ab_cn2 abLI_3_238 ab_nl))
theorem abLI_4_49 : Cond.constant "TimberHouse$Rips" 49 (Int32.ofInt 65536) ∈ abTW := by
  rw [show Int32.ofInt 65536 = 65536 from by decide]
  exact ab_in1 121 rfl rfl
theorem abLI_4_89 : Cond.constant "TimberHouse$Rips" 89 (Int32.ofInt 16777216) ∈ abTW := by
  rw [show Int32.ofInt 16777216 = 16777216 from by decide]
  exact ab_in1 142 rfl rfl
theorem abLI_4_174 : Cond.constant "TimberHouse$Rips" 174 (Int32.ofInt (-65536)) ∈ abTW := by
  rw [show Int32.ofInt (-65536) = (-65536) from by decide]
  exact ab_in6 205 rfl rfl
theorem abLI_4_178 : Cond.constant "TimberHouse$Rips" 178 (Int32.ofInt 100000) ∈ abTW := by
  rw [show Int32.ofInt 100000 = 100000 from by decide]
  exact ab_in6 211 rfl rfl
theorem abLI_a4 : ∀ q ∈ (abLI_l[4]?.getD []), abLI_P 4 q := ab_cn2 abLI_4_49 (ab_cn2 abLI_4_89 (ab_cn2 abLI_4_174 (ab_cn2 abLI_4_178 ab_nl)))
theorem abLI_a5 : ∀ q ∈ (abLI_l[5]?.getD []), abLI_P 5 q := ab_nl
theorem abLI_6_128 : Cond.constant "TimberHouse$Saw" 128 (Int32.ofInt 100000) ∈ abTW := by
  rw [show Int32.ofInt 100000 = 100000 from by decide]
  exact ab_in6 84 rfl rfl
theorem abLI_a6 : ∀ q ∈ (abLI_l[6]?.getD []), abLI_P 6 q := ab_cn2 abLI_6_128 ab_nl
theorem abLI_a7 : ∀ q ∈ (abLI_l[7]?.getD []), abLI_P 7 q := ab_nl
theorem abLI_a8 : ∀ q ∈ (abLI_l[8]?.getD []), abLI_P 8 q := ab_nl
theorem abLI_a9 : ∀ q ∈ (abLI_l[9]?.getD []), abLI_P 9 q := ab_nl
theorem abLI_10_256 : Cond.constant "TimberHouse$Turned" 256 (Int32.ofInt 100000) ∈ abTW := by
  rw [show Int32.ofInt 100000 = 100000 from by decide]
  exact ab_in8 190 rfl rfl
theorem abLI_a10 : ∀ q ∈ (abLI_l[10]?.getD []), abLI_P 10 q := ab_cn2 abLI_10_256 ab_nl
theorem abLI_a11 : ∀ q ∈ (abLI_l[11]?.getD []), abLI_P 11 q := ab_nl
theorem abLI_12_86 : Cond.constant "TimberHouseModel$Fingers" 86 (Int32.ofInt 65536) ∈ abTW := by
  rw [show Int32.ofInt 65536 = 65536 from by decide]
  exact ab_in13 99 rfl rfl
theorem abLI_a12 : ∀ q ∈ (abLI_l[12]?.getD []), abLI_P 12 q := ab_cn2 abLI_12_86 ab_nl
theorem abLI_a13 : ∀ q ∈ (abLI_l[13]?.getD []), abLI_P 13 q := ab_nl
theorem abLI_a14 : ∀ q ∈ (abLI_l[14]?.getD []), abLI_P 14 q := ab_nl
theorem abLI_a15 : ∀ q ∈ (abLI_l[15]?.getD []), abLI_P 15 q := ab_nl
theorem abLI_16_54 : Cond.constant "TimberHouseModel$Rips" 54 (Int32.ofInt 65537) ∈ abTW := by
  rw [show Int32.ofInt 65537 = 65537 from by decide]
  exact ab_in12 181 rfl rfl
theorem abLI_16_58 : Cond.constant "TimberHouseModel$Rips" 58 (Int32.ofInt 16777216) ∈ abTW := by
  rw [show Int32.ofInt 16777216 = 16777216 from by decide]
  exact ab_in12 182 rfl rfl
theorem abLI_16_63 : Cond.constant "TimberHouseModel$Rips" 63 (Int32.ofInt 75625) ∈ abTW := by
  rw [show Int32.ofInt 75625 = 75625 from by decide]
  exact ab_in12 183 rfl rfl
theorem abLI_16_131 : Cond.constant "TimberHouseModel$Rips" 131 (Int32.ofInt 65536) ∈ abTW := by
  rw [show Int32.ofInt 65536 = 65536 from by decide]
  exact ab_in12 187 rfl rfl
theorem abLI_a16 : ∀ q ∈ (abLI_l[16]?.getD []), abLI_P 16 q := ab_cn2 abLI_16_54 (ab_cn2 abLI_16_58 (ab_cn2 abLI_16_63 (ab_cn2 abLI_16_131 ab_nl)))
theorem abLI_a17 : ∀ q ∈ (abLI_l[17]?.getD []), abLI_P 17 q := ab_nl
theorem abLI_18_72 : Cond.constant "TimberHouseModel$Saw" 72 (Int32.ofInt 100000) ∈ abTW := by
  rw [show Int32.ofInt 100000 = 100000 from by decide]
  exact ab_in16 218 rfl rfl
theorem abLI_a18 : ∀ q ∈ (abLI_l[18]?.getD []), abLI_P 18 q := ab_cn2 abLI_18_72 ab_nl
theorem abLI_a19 : ∀ q ∈ (abLI_l[19]?.getD []), abLI_P 19 q := ab_nl
theorem abLI_a20 : ∀ q ∈ (abLI_l[20]?.getD []), abLI_P 20 q := ab_nl
theorem abLI_a21 : ∀ q ∈ (abLI_l[21]?.getD []), abLI_P 21 q := ab_nl
theorem abLI_a22 : ∀ q ∈ (abLI_l[22]?.getD []), abLI_P 22 q := ab_nl
theorem abLI_a23 : ∀ q ∈ (abLI_l[23]?.getD []), abLI_P 23 q := ab_nl
theorem abLI_a24 : ∀ q ∈ (abLI_l[24]?.getD []), abLI_P 24 q := ab_nl
theorem abLI_ok : ∀ o, ∀ q ∈ abLI o, abLI_P o q := ab_fam (P := abLI_P) (L := abLI_l) (And.intro abLI_a0 (And.intro abLI_a1 (And.intro abLI_a2 (And.intro abLI_a3 (And.intro abLI_a4 (And.intro abLI_a5 (And.intro abLI_a6 (And.intro abLI_a7 (And.intro abLI_a8 (And.intro abLI_a9 (And.intro abLI_a10 (And.intro abLI_a11 (And.intro abLI_a12 (And.intro abLI_a13 (And.intro abLI_a14 (And.intro abLI_a15 (And.intro abLI_a16 (And.intro abLI_a17 (And.intro abLI_a18 (And.intro abLI_a19 (And.intro abLI_a20 (And.intro abLI_a21 (And.intro abLI_a22 (And.intro abLI_a23 (And.intro abLI_a24 (trivial))))))))))))))))))))))))))
def abLL_l : List (List (Nat × Int)) := [[(136, (-9000000000000000000)), (141, 60), (157, 120)], [(128, (-9000000000000000000)), (199, 200), (201, 100), (203, 2), (205, 4), (215, 1000000000000)], [(118, (-9000000000000000000))], [(163, (-9000000000000000000)), (239, 200), (241, 2)], [(58, 24), (72, 10), (161, (-9000000000000000000)), (210, 9000000000000000000), (212, (-1)), (297, 512)], [(124, (-9000000000000000000))], [(111, (-9000000000000000000)), (164, 1024)], [(120, (-9000000000000000000)), (155, 1024)], [(117, (-9000000000000000000))], [], [(156, (-9000000000000000000)), (254, 360)], [(83, (-9000000000000000000))], [(90, 7), (103, 100000), (164, 5)], [(22, 100), (28, 2), (97, 6), (103, 4), (105, 1000), (107, 90), (113, 200), (115, 50), (117, 1000000000000), (123, 100000), (142, (-10000)), (144, 10000), (159, 10)], [], [(82, 32), (84, 126), (124, 1000000000), (140, 200), (142, 2), (175, 10000), (177, (-1000000)), (179, 1000000), (198, 1000), (219, 100000)], [(139, 7), (145, (-65536)), (147, 65536), (156, 100000), (176, 16777216), (247, 3), (267, 6)], [], [], [], [(70, 5), (76, 9), (134, 3), (136, 3599), (163, 119)], [(62, 500), (78, 64), (92, (-200)), (94, 300), (96, (-1000)), (98, 1500), (130, 12), (156, 100000), (177, 1000), (179, 360), (190, 10000)], [(96, (-9000000000000000000))], [], []]
noncomputable def abLL (o : Nat) : List (Nat × Int) := ab_row abLL_l o
def abLL_P (o : Nat) (q : Nat × Int) : Prop := Cond.constantLong (abCS o) q.1 (Int64.ofInt q.2) ∈ abTW
theorem abLL_0_136 : Cond.constantLong "TimberHouse$Fingers" 136 (Int64.ofInt (-9000000000000000000)) ∈ abTW := by
  rw [show Int64.ofInt (-9000000000000000000) = (-9000000000000000000) from by decide]
  exact ab_in8 2 rfl rfl
theorem abLL_0_141 : Cond.constantLong "TimberHouse$Fingers" 141 (Int64.ofInt 60) ∈ abTW := by
  rw [show Int64.ofInt 60 = 60 from by decide]
  exact ab_in4 140 rfl rfl
theorem abLL_0_157 : Cond.constantLong "TimberHouse$Fingers" 157 (Int64.ofInt 120) ∈ abTW := by
  rw [show Int64.ofInt 120 = 120 from by decide]
  exact ab_in7 191 rfl rfl
theorem abLL_a0 : ∀ q ∈ (abLL_l[0]?.getD []), abLL_P 0 q := ab_cn2 abLL_0_136 (ab_cn2 abLL_0_141 (ab_cn2 abLL_0_157 ab_nl))
theorem abLL_1_128 : Cond.constantLong "TimberHouse$Nails" 128 (Int64.ofInt (-9000000000000000000)) ∈ abTW := by
  rw [show Int64.ofInt (-9000000000000000000) = (-9000000000000000000) from by decide]
  exact ab_in9 114 rfl rfl
theorem abLL_1_199 : Cond.constantLong "TimberHouse$Nails" 199 (Int64.ofInt 200) ∈ abTW := by
  rw [show Int64.ofInt 200 = 200 from by decide]
  exact ab_in9 39 rfl rfl
theorem abLL_1_201 : Cond.constantLong "TimberHouse$Nails" 201 (Int64.ofInt 100) ∈ abTW := by
  rw [show Int64.ofInt 100 = 100 from by decide]
  exact ab_in9 40 rfl rfl
theorem abLL_1_203 : Cond.constantLong "TimberHouse$Nails" 203 (Int64.ofInt 2) ∈ abTW := by
  rw [show Int64.ofInt 2 = 2 from by decide]
  exact ab_in9 37 rfl rfl
theorem abLL_1_205 : Cond.constantLong "TimberHouse$Nails" 205 (Int64.ofInt 4) ∈ abTW := by
  rw [show Int64.ofInt 4 = 4 from by decide]
  exact ab_in9 38 rfl rfl
theorem abLL_1_215 : Cond.constantLong "TimberHouse$Nails" 215 (Int64.ofInt 1000000000000) ∈ abTW := by
  rw [show Int64.ofInt 1000000000000 = 1000000000000 from by decide]
  exact ab_in9 48 rfl rfl
theorem abLL_a1 : ∀ q ∈ (abLL_l[1]?.getD []), abLL_P 1 q := ab_cn2 abLL_1_128 (ab_cn2 abLL_1_199 (ab_cn2 abLL_1_201 (ab_cn2 abLL_1_203 (ab_cn2 abLL_1_205 (ab_cn2 abLL_1_215 ab_nl)))))
theorem abLL_2_118 : Cond.constantLong "TimberHouse$Plans" 118 (Int64.ofInt (-9000000000000000000)) ∈ abTW := by
  rw [show Int64.ofInt (-9000000000000000000) = (-9000000000000000000) from by decide]
  exact ab_in11 54 rfl rfl
theorem abLL_a2 : ∀ q ∈ (abLL_l[2]?.getD []), abLL_P 2 q := ab_cn2 abLL_2_118 ab_nl
theorem abLL_3_163 : Cond.constantLong "TimberHouse$Prices" 163 (Int64.ofInt (-9000000000000000000)) ∈ abTW := by
  rw [show Int64.ofInt (-9000000000000000000) = (-9000000000000000000) from by decide]
  exact ab_in11 188 rfl rfl
theorem abLL_3_239 : Cond.constantLong "TimberHouse$Prices" 239 (Int64.ofInt 200) ∈ abTW := by
  rw [show Int64.ofInt 200 = 200 from by decide]
  exact ab_in11 121 rfl rfl
theorem abLL_3_241 : Cond.constantLong "TimberHouse$Prices" 241 (Int64.ofInt 2) ∈ abTW := by
  rw [show Int64.ofInt 2 = 2 from by decide]
  exact ab_in11 122 rfl rfl
theorem abLL_a3 : ∀ q ∈ (abLL_l[3]?.getD []), abLL_P 3 q := ab_cn2 abLL_3_163 (ab_cn2 abLL_3_239 (ab_cn2 abLL_3_241 ab_nl))
theorem abLL_4_58 : Cond.constantLong "TimberHouse$Rips" 58 (Int64.ofInt 24) ∈ abTW := by
  rw [show Int64.ofInt 24 = 24 from by decide]
  exact ab_in1 131 rfl rfl
theorem abLL_4_72 : Cond.constantLong "TimberHouse$Rips" 72 (Int64.ofInt 10) ∈ abTW := by
  rw [show Int64.ofInt 10 = 10 from by decide]
  exact ab_in1 141 rfl rfl
theorem abLL_4_161 : Cond.constantLong "TimberHouse$Rips" 161 (Int64.ofInt (-9000000000000000000)) ∈ abTW := by
  rw [show Int64.ofInt (-9000000000000000000) = (-9000000000000000000) from by decide]
  exact ab_in7 171 rfl rfl
theorem abLL_4_210 : Cond.constantLong "TimberHouse$Rips" 210 (Int64.ofInt 9000000000000000000) ∈ abTW := by
  rw [show Int64.ofInt 9000000000000000000 = 9000000000000000000 from by decide]
  exact ab_in7 91 rfl rfl
theorem abLL_4_212 : Cond.constantLong "TimberHouse$Rips" 212 (Int64.ofInt (-1)) ∈ abTW := by
  rw [show Int64.ofInt (-1) = (-1) from by decide]
  exact ab_in7 92 rfl rfl
theorem abLL_4_297 : Cond.constantLong "TimberHouse$Rips" 297 (Int64.ofInt 512) ∈ abTW := by
  rw [show Int64.ofInt 512 = 512 from by decide]
  exact ab_in7 38 rfl rfl
theorem abLL_a4 : ∀ q ∈ (abLL_l[4]?.getD []), abLL_P 4 q := ab_cn2 abLL_4_58 (ab_cn2 abLL_4_72 (ab_cn2 abLL_4_161 (ab_cn2 abLL_4_210 (ab_cn2 abLL_4_212 (ab_cn2 abLL_4_297 ab_nl)))))
theorem abLL_5_124 : Cond.constantLong "TimberHouse$Router" 124 (Int64.ofInt (-9000000000000000000)) ∈ abTW := by
  rw [show Int64.ofInt (-9000000000000000000) = (-9000000000000000000) from by decide]
  exact ab_in10 128 rfl rfl
theorem abLL_a5 : ∀ q ∈ (abLL_l[5]?.getD []), abLL_P 5 q := ab_cn2 abLL_5_124 ab_nl
theorem abLL_6_111 : Cond.constantLong "TimberHouse$Saw" 111 (Int64.ofInt (-9000000000000000000)) ∈ abTW := by
  rw [show Int64.ofInt (-9000000000000000000) = (-9000000000000000000) from by decide]
  exact ab_in6 194 rfl rfl
theorem abLL_6_164 : Cond.constantLong "TimberHouse$Saw" 164 (Int64.ofInt 1024) ∈ abTW := by
  rw [show Int64.ofInt 1024 = 1024 from by decide]
  exact ab_in6 140 rfl rfl
theorem abLL_a6 : ∀ q ∈ (abLL_l[6]?.getD []), abLL_P 6 q := ab_cn2 abLL_6_111 (ab_cn2 abLL_6_164 ab_nl)
theorem abLL_7_120 : Cond.constantLong "TimberHouse$Sheets" 120 (Int64.ofInt (-9000000000000000000)) ∈ abTW := by
  rw [show Int64.ofInt (-9000000000000000000) = (-9000000000000000000) from by decide]
  exact ab_in9 223 rfl rfl
theorem abLL_7_155 : Cond.constantLong "TimberHouse$Sheets" 155 (Int64.ofInt 1024) ∈ abTW := by
  rw [show Int64.ofInt 1024 = 1024 from by decide]
  exact ab_in9 161 rfl rfl
theorem abLL_a7 : ∀ q ∈ (abLL_l[7]?.getD []), abLL_P 7 q := ab_cn2 abLL_7_120 (ab_cn2 abLL_7_155 ab_nl)
theorem abLL_8_117 : Cond.constantLong "TimberHouse$Shop" 117 (Int64.ofInt (-9000000000000000000)) ∈ abTW := by
  rw [show Int64.ofInt (-9000000000000000000) = (-9000000000000000000) from by decide]
  exact ab_in12 94 rfl rfl
theorem abLL_a8 : ∀ q ∈ (abLL_l[8]?.getD []), abLL_P 8 q := ab_cn2 abLL_8_117 ab_nl
theorem abLL_a9 : ∀ q ∈ (abLL_l[9]?.getD []), abLL_P 9 q := ab_nl
theorem abLL_10_156 : Cond.constantLong "TimberHouse$Turned" 156 (Int64.ofInt (-9000000000000000000)) ∈ abTW := by
  rw [show Int64.ofInt (-9000000000000000000) = (-9000000000000000000) from by decide]
  exact ab_in8 199 rfl rfl
theorem abLL_10_254 : Cond.constantLong "TimberHouse$Turned" 254 (Int64.ofInt 360) ∈ abTW := by
  rw [show Int64.ofInt 360 = 360 from by decide]
  exact ab_in8 181 rfl rfl
theorem abLL_a10 : ∀ q ∈ (abLL_l[10]?.getD []), abLL_P 10 q := ab_cn2 abLL_10_156 (ab_cn2 abLL_10_254 ab_nl)
theorem abLL_11_83 : Cond.constantLong "TimberHouse" 83 (Int64.ofInt (-9000000000000000000)) ∈ abTW := by
  rw [show Int64.ofInt (-9000000000000000000) = (-9000000000000000000) from by decide]
  exact ab_in5 215 rfl rfl
theorem abLL_a11 : ∀ q ∈ (abLL_l[11]?.getD []), abLL_P 11 q := ab_cn2 abLL_11_83 ab_nl
theorem abLL_12_90 : Cond.constantLong "TimberHouseModel$Fingers" 90 (Int64.ofInt 7) ∈ abTW := by
  rw [show Int64.ofInt 7 = 7 from by decide]
  exact ab_in18 90 rfl rfl
theorem abLL_12_103 : Cond.constantLong "TimberHouseModel$Fingers" 103 (Int64.ofInt 100000) ∈ abTW := by
  rw [show Int64.ofInt 100000 = 100000 from by decide]
  exact ab_in18 102 rfl rfl
theorem abLL_12_164 : Cond.constantLong "TimberHouseModel$Fingers" 164 (Int64.ofInt 5) ∈ abTW := by
  rw [show Int64.ofInt 5 = 5 from by decide]
  exact ab_in18 159 rfl rfl
theorem abLL_a12 : ∀ q ∈ (abLL_l[12]?.getD []), abLL_P 12 q := ab_cn2 abLL_12_90 (ab_cn2 abLL_12_103 (ab_cn2 abLL_12_164 ab_nl))
theorem abLL_13_22 : Cond.constantLong "TimberHouseModel$Nails" 22 (Int64.ofInt 100) ∈ abTW := by
  rw [show Int64.ofInt 100 = 100 from by decide]
  exact ab_in14 60 rfl rfl
theorem abLL_13_28 : Cond.constantLong "TimberHouseModel$Nails" 28 (Int64.ofInt 2) ∈ abTW := by
  rw [show Int64.ofInt 2 = 2 from by decide]
  exact ab_in14 61 rfl rfl
theorem abLL_13_97 : Cond.constantLong "TimberHouseModel$Nails" 97 (Int64.ofInt 6) ∈ abTW := by
  rw [show Int64.ofInt 6 = 6 from by decide]
  exact ab_in19 218 rfl rfl
theorem abLL_13_103 : Cond.constantLong "TimberHouseModel$Nails" 103 (Int64.ofInt 4) ∈ abTW := by
  rw [show Int64.ofInt 4 = 4 from by decide]
  exact ab_in19 236 rfl rfl
theorem abLL_13_105 : Cond.constantLong "TimberHouseModel$Nails" 105 (Int64.ofInt 1000) ∈ abTW := by
  rw [show Int64.ofInt 1000 = 1000 from by decide]
  exact ab_in19 230 rfl rfl
theorem abLL_13_107 : Cond.constantLong "TimberHouseModel$Nails" 107 (Int64.ofInt 90) ∈ abTW := by
  rw [show Int64.ofInt 90 = 90 from by decide]
  exact ab_in19 231 rfl rfl
theorem abLL_13_113 : Cond.constantLong "TimberHouseModel$Nails" 113 (Int64.ofInt 200) ∈ abTW := by
  rw [show Int64.ofInt 200 = 200 from by decide]
  exact ab_in19 237 rfl rfl
theorem abLL_13_115 : Cond.constantLong "TimberHouseModel$Nails" 115 (Int64.ofInt 50) ∈ abTW := by
  rw [show Int64.ofInt 50 = 50 from by decide]
  exact ab_in20 7 rfl rfl
theorem abLL_13_117 : Cond.constantLong "TimberHouseModel$Nails" 117 (Int64.ofInt 1000000000000) ∈ abTW := by
  rw [show Int64.ofInt 1000000000000 = 1000000000000 from by decide]
  exact ab_in20 2 rfl rfl
theorem abLL_13_123 : Cond.constantLong "TimberHouseModel$Nails" 123 (Int64.ofInt 100000) ∈ abTW := by
  rw [show Int64.ofInt 100000 = 100000 from by decide]
  exact ab_in20 16 rfl rfl
theorem abLL_13_142 : Cond.constantLong "TimberHouseModel$Nails" 142 (Int64.ofInt (-10000)) ∈ abTW := by
  rw [show Int64.ofInt (-10000) = (-10000) from by decide]
  exact ab_in20 47 rfl rfl
theorem abLL_13_144 : Cond.constantLong "TimberHouseModel$Nails" 144 (Int64.ofInt 10000) ∈ abTW := by
  rw [show Int64.ofInt 10000 = 10000 from by decide]
  exact ab_in20 48 rfl rfl
theorem abLL_13_159 : Cond.constantLong "TimberHouseModel$Nails" 159 (Int64.ofInt 10) ∈ abTW := by
  rw [show Int64.ofInt 10 = 10 from by decide]
  exact ab_in20 65 rfl rfl
theorem abLL_a13 : ∀ q ∈ (abLL_l[13]?.getD []), abLL_P 13 q := ab_cn2 abLL_13_22 (ab_cn2 abLL_13_28 (ab_cn2 abLL_13_97 (ab_cn2 abLL_13_103 (ab_cn2 abLL_13_105 (ab_cn2 abLL_13_107 (ab_cn2 abLL_13_113 (ab_cn2 abLL_13_115 (ab_cn2 abLL_13_117 (ab_cn2 abLL_13_123 (ab_cn2 abLL_13_142 (ab_cn2 abLL_13_144 (ab_cn2 abLL_13_159 ab_nl))))))))))))
theorem abLL_a14 : ∀ q ∈ (abLL_l[14]?.getD []), abLL_P 14 q := ab_nl
theorem abLL_15_82 : Cond.constantLong "TimberHouseModel$Prices" 82 (Int64.ofInt 32) ∈ abTW := by
  rw [show Int64.ofInt 32 = 32 from by decide]
  exact ab_in21 217 rfl rfl
theorem abLL_15_84 : Cond.constantLong "TimberHouseModel$Prices" 84 (Int64.ofInt 126) ∈ abTW := by
  rw [show Int64.ofInt 126 = 126 from by decide]
  exact ab_in21 218 rfl rfl
theorem abLL_15_124 : Cond.constantLong "TimberHouseModel$Prices" 124 (Int64.ofInt 1000000000) ∈ abTW := by
  rw [show Int64.ofInt 1000000000 = 1000000000 from by decide]
  exact ab_in22 29 rfl rfl
theorem abLL_15_140 : Cond.constantLong "TimberHouseModel$Prices" 140 (Int64.ofInt 200) ∈ abTW := by
  rw [show Int64.ofInt 200 = 200 from by decide]
  exact ab_in22 62 rfl rfl
theorem abLL_15_142 : Cond.constantLong "TimberHouseModel$Prices" 142 (Int64.ofInt 2) ∈ abTW := by
  rw [show Int64.ofInt 2 = 2 from by decide]
  exact ab_in22 63 rfl rfl
theorem abLL_15_175 : Cond.constantLong "TimberHouseModel$Prices" 175 (Int64.ofInt 10000) ∈ abTW := by
  rw [show Int64.ofInt 10000 = 10000 from by decide]
  exact ab_in22 15 rfl rfl
theorem abLL_15_177 : Cond.constantLong "TimberHouseModel$Prices" 177 (Int64.ofInt (-1000000)) ∈ abTW := by
  rw [show Int64.ofInt (-1000000) = (-1000000) from by decide]
  exact ab_in22 16 rfl rfl
theorem abLL_15_179 : Cond.constantLong "TimberHouseModel$Prices" 179 (Int64.ofInt 1000000) ∈ abTW := by
  rw [show Int64.ofInt 1000000 = 1000000 from by decide]
  exact ab_in22 17 rfl rfl
theorem abLL_15_198 : Cond.constantLong "TimberHouseModel$Prices" 198 (Int64.ofInt 1000) ∈ abTW := by
  rw [show Int64.ofInt 1000 = 1000 from by decide]
  exact ab_in22 93 rfl rfl
theorem abLL_15_219 : Cond.constantLong "TimberHouseModel$Prices" 219 (Int64.ofInt 100000) ∈ abTW := by
  rw [show Int64.ofInt 100000 = 100000 from by decide]
  exact ab_in22 139 rfl rfl
theorem abLL_a15 : ∀ q ∈ (abLL_l[15]?.getD []), abLL_P 15 q := ab_cn2 abLL_15_82 (ab_cn2 abLL_15_84 (ab_cn2 abLL_15_124 (ab_cn2 abLL_15_140 (ab_cn2 abLL_15_142 (ab_cn2 abLL_15_175 (ab_cn2 abLL_15_177 (ab_cn2 abLL_15_179 (ab_cn2 abLL_15_198 (ab_cn2 abLL_15_219 ab_nl)))))))))
theorem abLL_16_139 : Cond.constantLong "TimberHouseModel$Rips" 139 (Int64.ofInt 7) ∈ abTW := by
  rw [show Int64.ofInt 7 = 7 from by decide]
  exact ab_in17 109 rfl rfl
theorem abLL_16_145 : Cond.constantLong "TimberHouseModel$Rips" 145 (Int64.ofInt (-65536)) ∈ abTW := by
  rw [show Int64.ofInt (-65536) = (-65536) from by decide]
  exact ab_in17 113 rfl rfl
theorem abLL_16_147 : Cond.constantLong "TimberHouseModel$Rips" 147 (Int64.ofInt 65536) ∈ abTW := by
  rw [show Int64.ofInt 65536 = 65536 from by decide]
  exact ab_in17 114 rfl rfl
theorem abLL_16_156 : Cond.constantLong "TimberHouseModel$Rips" 156 (Int64.ofInt 100000) ∈ abTW := by
  rw [show Int64.ofInt 100000 = 100000 from by decide]
  exact ab_in17 127 rfl rfl
theorem abLL_16_176 : Cond.constantLong "TimberHouseModel$Rips" 176 (Int64.ofInt 16777216) ∈ abTW := by
  rw [show Int64.ofInt 16777216 = 16777216 from by decide]
  exact ab_in17 157 rfl rfl
theorem abLL_16_247 : Cond.constantLong "TimberHouseModel$Rips" 247 (Int64.ofInt 3) ∈ abTW := by
  rw [show Int64.ofInt 3 = 3 from by decide]
  exact ab_in17 162 rfl rfl
theorem abLL_16_267 : Cond.constantLong "TimberHouseModel$Rips" 267 (Int64.ofInt 6) ∈ abTW := by
  rw [show Int64.ofInt 6 = 6 from by decide]
  exact ab_in18 2 rfl rfl
theorem abLL_a16 : ∀ q ∈ (abLL_l[16]?.getD []), abLL_P 16 q := ab_cn2 abLL_16_139 (ab_cn2 abLL_16_145 (ab_cn2 abLL_16_147 (ab_cn2 abLL_16_156 (ab_cn2 abLL_16_176 (ab_cn2 abLL_16_247 (ab_cn2 abLL_16_267 ab_nl))))))
theorem abLL_a17 : ∀ q ∈ (abLL_l[17]?.getD []), abLL_P 17 q := ab_nl
theorem abLL_a18 : ∀ q ∈ (abLL_l[18]?.getD []), abLL_P 18 q := ab_nl
theorem abLL_a19 : ∀ q ∈ (abLL_l[19]?.getD []), abLL_P 19 q := ab_nl
theorem abLL_20_70 : Cond.constantLong "TimberHouseModel$Shop" 70 (Int64.ofInt 5) ∈ abTW := by
  rw [show Int64.ofInt 5 = 5 from by decide]
  exact ab_in22 148 rfl rfl
theorem abLL_20_76 : Cond.constantLong "TimberHouseModel$Shop" 76 (Int64.ofInt 9) ∈ abTW := by
  rw [show Int64.ofInt 9 = 9 from by decide]
  exact ab_in22 152 rfl rfl
theorem abLL_20_134 : Cond.constantLong "TimberHouseModel$Shop" 134 (Int64.ofInt 3) ∈ abTW := by
  rw [show Int64.ofInt 3 = 3 from by decide]
  exact ab_in23 4 rfl rfl
theorem abLL_20_136 : Cond.constantLong "TimberHouseModel$Shop" 136 (Int64.ofInt 3599) ∈ abTW := by
  rw [show Int64.ofInt 3599 = 3599 from by decide]
  exact ab_in23 13 rfl rfl
theorem abLL_20_163 : Cond.constantLong "TimberHouseModel$Shop" 163 (Int64.ofInt 119) ∈ abTW := by
  rw [show Int64.ofInt 119 = 119 from by decide]
  exact ab_in23 48 rfl rfl
theorem abLL_a20 : ∀ q ∈ (abLL_l[20]?.getD []), abLL_P 20 q := ab_cn2 abLL_20_70 (ab_cn2 abLL_20_76 (ab_cn2 abLL_20_134 (ab_cn2 abLL_20_136 (ab_cn2 abLL_20_163 ab_nl))))
theorem abLL_21_62 : Cond.constantLong "TimberHouseModel$Turned" 62 (Int64.ofInt 500) ∈ abTW := by
  rw [show Int64.ofInt 500 = 500 from by decide]
  exact ab_in18 221 rfl rfl
theorem abLL_21_78 : Cond.constantLong "TimberHouseModel$Turned" 78 (Int64.ofInt 64) ∈ abTW := by
  rw [show Int64.ofInt 64 = 64 from by decide]
  exact ab_in18 237 rfl rfl
theorem abLL_21_92 : Cond.constantLong "TimberHouseModel$Turned" 92 (Int64.ofInt (-200)) ∈ abTW := by
  rw [show Int64.ofInt (-200) = (-200) from by decide]
  exact ab_in19 10 rfl rfl
theorem abLL_21_94 : Cond.constantLong "TimberHouseModel$Turned" 94 (Int64.ofInt 300) ∈ abTW := by
  rw [show Int64.ofInt 300 = 300 from by decide]
  exact ab_in19 11 rfl rfl
theorem abLL_21_96 : Cond.constantLong "TimberHouseModel$Turned" 96 (Int64.ofInt (-1000)) ∈ abTW := by
  rw [show Int64.ofInt (-1000) = (-1000) from by decide]
  exact ab_in19 12 rfl rfl
theorem abLL_21_98 : Cond.constantLong "TimberHouseModel$Turned" 98 (Int64.ofInt 1500) ∈ abTW := by
  rw [show Int64.ofInt 1500 = 1500 from by decide]
  exact ab_in19 13 rfl rfl
theorem abLL_21_130 : Cond.constantLong "TimberHouseModel$Turned" 130 (Int64.ofInt 12) ∈ abTW := by
  rw [show Int64.ofInt 12 = 12 from by decide]
  exact ab_in19 57 rfl rfl
theorem abLL_21_156 : Cond.constantLong "TimberHouseModel$Turned" 156 (Int64.ofInt 100000) ∈ abTW := by
  rw [show Int64.ofInt 100000 = 100000 from by decide]
  exact ab_in19 101 rfl rfl
theorem abLL_21_177 : Cond.constantLong "TimberHouseModel$Turned" 177 (Int64.ofInt 1000) ∈ abTW := by
  rw [show Int64.ofInt 1000 = 1000 from by decide]
  exact ab_in19 145 rfl rfl
theorem abLL_21_179 : Cond.constantLong "TimberHouseModel$Turned" 179 (Int64.ofInt 360) ∈ abTW := by
  rw [show Int64.ofInt 360 = 360 from by decide]
  exact ab_in19 146 rfl rfl
theorem abLL_21_190 : Cond.constantLong "TimberHouseModel$Turned" 190 (Int64.ofInt 10000) ∈ abTW := by
  rw [show Int64.ofInt 10000 = 10000 from by decide]
  exact ab_in19 159 rfl rfl
theorem abLL_a21 : ∀ q ∈ (abLL_l[21]?.getD []), abLL_P 21 q := ab_cn2 abLL_21_62 (ab_cn2 abLL_21_78 (ab_cn2 abLL_21_92 (ab_cn2 abLL_21_94 (ab_cn2 abLL_21_96 (ab_cn2 abLL_21_98 (ab_cn2 abLL_21_130 (ab_cn2 abLL_21_156 (ab_cn2 abLL_21_177 (ab_cn2 abLL_21_179 (ab_cn2 abLL_21_190 ab_nl))))))))))
theorem abLL_22_96 : Cond.constantLong "TimberHouseModel" 96 (Int64.ofInt (-9000000000000000000)) ∈ abTW := by
  rw [show Int64.ofInt (-9000000000000000000) = (-9000000000000000000) from by decide]
  exact ab_in16 178 rfl rfl
theorem abLL_a22 : ∀ q ∈ (abLL_l[22]?.getD []), abLL_P 22 q := ab_cn2 abLL_22_96 ab_nl
theorem abLL_a23 : ∀ q ∈ (abLL_l[23]?.getD []), abLL_P 23 q := ab_nl
theorem abLL_a24 : ∀ q ∈ (abLL_l[24]?.getD []), abLL_P 24 q := ab_nl
theorem abLL_ok : ∀ o, ∀ q ∈ abLL o, abLL_P o q := ab_fam (P := abLL_P) (L := abLL_l) (And.intro abLL_a0 (And.intro abLL_a1 (And.intro abLL_a2 (And.intro abLL_a3 (And.intro abLL_a4 (And.intro abLL_a5 (And.intro abLL_a6 (And.intro abLL_a7 (And.intro abLL_a8 (And.intro abLL_a9 (And.intro abLL_a10 (And.intro abLL_a11 (And.intro abLL_a12 (And.intro abLL_a13 (And.intro abLL_a14 (And.intro abLL_a15 (And.intro abLL_a16 (And.intro abLL_a17 (And.intro abLL_a18 (And.intro abLL_a19 (And.intro abLL_a20 (And.intro abLL_a21 (And.intro abLL_a22 (And.intro abLL_a23 (And.intro abLL_a24 (trivial))))))))))))))))))))))))))
def abLD_l : List (List (Nat × Nat)) := [[], [], [], [], [], [], [], [], [], [], [], [], [], [], [], [], [], [], [], [], [], [], [(265, 1)], [], []]
noncomputable def abLD (o : Nat) : List (Nat × Nat) := ab_row abLD_l o
def abLD_P (o : Nat) (q : Nat × Nat) : Prop := Cond.constantDouble (abCS o) q.1 0x4020000000000000 ∈ abTW
theorem abLD_a0 : ∀ q ∈ (abLD_l[0]?.getD []), abLD_P 0 q := ab_nl
theorem abLD_a1 : ∀ q ∈ (abLD_l[1]?.getD []), abLD_P 1 q := ab_nl
theorem abLD_a2 : ∀ q ∈ (abLD_l[2]?.getD []), abLD_P 2 q := ab_nl
theorem abLD_a3 : ∀ q ∈ (abLD_l[3]?.getD []), abLD_P 3 q := ab_nl
theorem abLD_a4 : ∀ q ∈ (abLD_l[4]?.getD []), abLD_P 4 q := ab_nl
theorem abLD_a5 : ∀ q ∈ (abLD_l[5]?.getD []), abLD_P 5 q := ab_nl
theorem abLD_a6 : ∀ q ∈ (abLD_l[6]?.getD []), abLD_P 6 q := ab_nl
theorem abLD_a7 : ∀ q ∈ (abLD_l[7]?.getD []), abLD_P 7 q := ab_nl
theorem abLD_a8 : ∀ q ∈ (abLD_l[8]?.getD []), abLD_P 8 q := ab_nl
theorem abLD_a9 : ∀ q ∈ (abLD_l[9]?.getD []), abLD_P 9 q := ab_nl
theorem abLD_a10 : ∀ q ∈ (abLD_l[10]?.getD []), abLD_P 10 q := ab_nl
theorem abLD_a11 : ∀ q ∈ (abLD_l[11]?.getD []), abLD_P 11 q := ab_nl
theorem abLD_a12 : ∀ q ∈ (abLD_l[12]?.getD []), abLD_P 12 q := ab_nl
theorem abLD_a13 : ∀ q ∈ (abLD_l[13]?.getD []), abLD_P 13 q := ab_nl
theorem abLD_a14 : ∀ q ∈ (abLD_l[14]?.getD []), abLD_P 14 q := ab_nl
theorem abLD_a15 : ∀ q ∈ (abLD_l[15]?.getD []), abLD_P 15 q := ab_nl
theorem abLD_a16 : ∀ q ∈ (abLD_l[16]?.getD []), abLD_P 16 q := ab_nl
theorem abLD_a17 : ∀ q ∈ (abLD_l[17]?.getD []), abLD_P 17 q := ab_nl
theorem abLD_a18 : ∀ q ∈ (abLD_l[18]?.getD []), abLD_P 18 q := ab_nl
theorem abLD_a19 : ∀ q ∈ (abLD_l[19]?.getD []), abLD_P 19 q := ab_nl
theorem abLD_a20 : ∀ q ∈ (abLD_l[20]?.getD []), abLD_P 20 q := ab_nl
theorem abLD_a21 : ∀ q ∈ (abLD_l[21]?.getD []), abLD_P 21 q := ab_nl
theorem abLD_22_265 : Cond.constantDouble "TimberHouseModel" 265 0x4020000000000000 ∈ abTW := ab_in18 193 rfl rfl
theorem abLD_a22 : ∀ q ∈ (abLD_l[22]?.getD []), abLD_P 22 q := ab_cn2 abLD_22_265 ab_nl
theorem abLD_a23 : ∀ q ∈ (abLD_l[23]?.getD []), abLD_P 23 q := ab_nl
theorem abLD_a24 : ∀ q ∈ (abLD_l[24]?.getD []), abLD_P 24 q := ab_nl
theorem abLD_ok : ∀ o, ∀ q ∈ abLD o, abLD_P o q := ab_fam (P := abLD_P) (L := abLD_l) (And.intro abLD_a0 (And.intro abLD_a1 (And.intro abLD_a2 (And.intro abLD_a3 (And.intro abLD_a4 (And.intro abLD_a5 (And.intro abLD_a6 (And.intro abLD_a7 (And.intro abLD_a8 (And.intro abLD_a9 (And.intro abLD_a10 (And.intro abLD_a11 (And.intro abLD_a12 (And.intro abLD_a13 (And.intro abLD_a14 (And.intro abLD_a15 (And.intro abLD_a16 (And.intro abLD_a17 (And.intro abLD_a18 (And.intro abLD_a19 (And.intro abLD_a20 (And.intro abLD_a21 (And.intro abLD_a22 (And.intro abLD_a23 (And.intro abLD_a24 (trivial))))))))))))))))))))))))))
def abLN_l : List (List (Nat × Nat)) := [[], [(9, 9)], [], [(9, 9)], [], [(26, 9)], [], [], [], [], [], [(7, 6), (16, 4), (23, 0), (30, 10), (37, 1), (44, 7), (51, 5), (58, 2), (65, 3), (72, 8)], [], [], [], [], [], [], [], [], [], [], [(13, 18), (22, 16), (31, 12), (38, 21), (45, 13), (52, 19), (59, 17), (68, 14), (75, 15), (82, 20)], [(8, 11), (20, 22)], []]
noncomputable def abLN (o : Nat) : List (Nat × Nat) := ab_row abLN_l o
def abLN_P (o : Nat) (q : Nat × Nat) : Prop := Cond.classLink (abCS o) q.1 (abCT q.2).1 ∈ abTW
theorem abLN_a0 : ∀ q ∈ (abLN_l[0]?.getD []), abLN_P 0 q := ab_nl
theorem abLN_1_9 : Cond.classLink "TimberHouse$Nails" 9 "TimberHouse$Text" ∈ abTW := ab_in2 120 rfl rfl
theorem abLN_a1 : ∀ q ∈ (abLN_l[1]?.getD []), abLN_P 1 q := ab_cn2 abLN_1_9 ab_nl
theorem abLN_a2 : ∀ q ∈ (abLN_l[2]?.getD []), abLN_P 2 q := ab_nl
theorem abLN_3_9 : Cond.classLink "TimberHouse$Prices" 9 "TimberHouse$Text" ∈ abTW := ab_in3 145 rfl rfl
theorem abLN_a3 : ∀ q ∈ (abLN_l[3]?.getD []), abLN_P 3 q := ab_cn2 abLN_3_9 ab_nl
theorem abLN_a4 : ∀ q ∈ (abLN_l[4]?.getD []), abLN_P 4 q := ab_nl
theorem abLN_5_26 : Cond.classLink "TimberHouse$Router" 26 "TimberHouse$Text" ∈ abTW := ab_in3 18 rfl rfl
theorem abLN_a5 : ∀ q ∈ (abLN_l[5]?.getD []), abLN_P 5 q := ab_cn2 abLN_5_26 ab_nl
theorem abLN_a6 : ∀ q ∈ (abLN_l[6]?.getD []), abLN_P 6 q := ab_nl
theorem abLN_a7 : ∀ q ∈ (abLN_l[7]?.getD []), abLN_P 7 q := ab_nl
theorem abLN_a8 : ∀ q ∈ (abLN_l[8]?.getD []), abLN_P 8 q := ab_nl
theorem abLN_a9 : ∀ q ∈ (abLN_l[9]?.getD []), abLN_P 9 q := ab_nl
theorem abLN_a10 : ∀ q ∈ (abLN_l[10]?.getD []), abLN_P 10 q := ab_nl
theorem abLN_11_7 : Cond.classLink "TimberHouse" 7 "TimberHouse$Saw" ∈ abTW := ab_in1 45 rfl rfl
theorem abLN_11_16 : Cond.classLink "TimberHouse" 16 "TimberHouse$Rips" ∈ abTW := ab_in1 107 rfl rfl
theorem abLN_11_23 : Cond.classLink "TimberHouse" 23 "TimberHouse$Fingers" ∈ abTW := ab_in1 210 rfl rfl
theorem abLN_11_30 : Cond.classLink "TimberHouse" 30 "TimberHouse$Turned" ∈ abTW := ab_in2 50 rfl rfl
theorem abLN_11_37 : Cond.classLink "TimberHouse" 37 "TimberHouse$Nails" ∈ abTW := ab_in2 114 rfl rfl
theorem abLN_11_44 : Cond.classLink "TimberHouse" 44 "TimberHouse$Sheets" ∈ abTW := ab_in2 181 rfl rfl
theorem abLN_11_51 : Cond.classLink "TimberHouse" 51 "TimberHouse$Router" ∈ abTW := ab_in3 11 rfl rfl
theorem abLN_11_58 : Cond.classLink "TimberHouse" 58 "TimberHouse$Plans" ∈ abTW := ab_in3 70 rfl rfl
theorem abLN_11_65 : Cond.classLink "TimberHouse" 65 "TimberHouse$Prices" ∈ abTW := ab_in3 139 rfl rfl
theorem abLN_11_72 : Cond.classLink "TimberHouse" 72 "TimberHouse$Shop" ∈ abTW := ab_in3 222 rfl rfl
theorem abLN_a11 : ∀ q ∈ (abLN_l[11]?.getD []), abLN_P 11 q := ab_cn2 abLN_11_7 (ab_cn2 abLN_11_16 (ab_cn2 abLN_11_23 (ab_cn2 abLN_11_30 (ab_cn2 abLN_11_37 (ab_cn2 abLN_11_44 (ab_cn2 abLN_11_51 (ab_cn2 abLN_11_58 (ab_cn2 abLN_11_65 (ab_cn2 abLN_11_72 ab_nl)))))))))
theorem abLN_a12 : ∀ q ∈ (abLN_l[12]?.getD []), abLN_P 12 q := ab_nl
theorem abLN_a13 : ∀ q ∈ (abLN_l[13]?.getD []), abLN_P 13 q := ab_nl
theorem abLN_a14 : ∀ q ∈ (abLN_l[14]?.getD []), abLN_P 14 q := ab_nl
theorem abLN_a15 : ∀ q ∈ (abLN_l[15]?.getD []), abLN_P 15 q := ab_nl
theorem abLN_a16 : ∀ q ∈ (abLN_l[16]?.getD []), abLN_P 16 q := ab_nl
theorem abLN_a17 : ∀ q ∈ (abLN_l[17]?.getD []), abLN_P 17 q := ab_nl
theorem abLN_a18 : ∀ q ∈ (abLN_l[18]?.getD []), abLN_P 18 q := ab_nl
theorem abLN_a19 : ∀ q ∈ (abLN_l[19]?.getD []), abLN_P 19 q := ab_nl
theorem abLN_a20 : ∀ q ∈ (abLN_l[20]?.getD []), abLN_P 20 q := ab_nl
theorem abLN_a21 : ∀ q ∈ (abLN_l[21]?.getD []), abLN_P 21 q := ab_nl
theorem abLN_22_13 : Cond.classLink "TimberHouseModel" 13 "TimberHouseModel$Saw" ∈ abTW := ab_in12 101 rfl rfl
theorem abLN_22_22 : Cond.classLink "TimberHouseModel" 22 "TimberHouseModel$Rips" ∈ abTW := ab_in12 175 rfl rfl
theorem abLN_22_31 : Cond.classLink "TimberHouseModel" 31 "TimberHouseModel$Fingers" ∈ abTW := ab_in13 90 rfl rfl
theorem abLN_22_38 : Cond.classLink "TimberHouseModel" 38 "TimberHouseModel$Turned" ∈ abTW := ab_in13 209 rfl rfl
theorem abLN_22_45 : Cond.classLink "TimberHouseModel" 45 "TimberHouseModel$Nails" ∈ abTW := ab_in14 54 rfl rfl
theorem abLN_22_52 : Cond.classLink "TimberHouseModel" 52 "TimberHouseModel$Sheets" ∈ abTW := ab_in14 123 rfl rfl
theorem abLN_22_59 : Cond.classLink "TimberHouseModel" 59 "TimberHouseModel$Router" ∈ abTW := ab_in14 232 rfl rfl
theorem abLN_22_68 : Cond.classLink "TimberHouseModel" 68 "TimberHouseModel$Plans" ∈ abTW := ab_in15 68 rfl rfl
theorem abLN_22_75 : Cond.classLink "TimberHouseModel" 75 "TimberHouseModel$Prices" ∈ abTW := ab_in15 177 rfl rfl
theorem abLN_22_82 : Cond.classLink "TimberHouseModel" 82 "TimberHouseModel$Shop" ∈ abTW := ab_in16 48 rfl rfl
theorem abLN_a22 : ∀ q ∈ (abLN_l[22]?.getD []), abLN_P 22 q := ab_cn2 abLN_22_13 (ab_cn2 abLN_22_22 (ab_cn2 abLN_22_31 (ab_cn2 abLN_22_38 (ab_cn2 abLN_22_45 (ab_cn2 abLN_22_52 (ab_cn2 abLN_22_59 (ab_cn2 abLN_22_68 (ab_cn2 abLN_22_75 (ab_cn2 abLN_22_82 ab_nl)))))))))
theorem abLN_23_8 : Cond.classLink "TimberHouseLaw" 8 "TimberHouse" ∈ abTW := ab_in1 37 rfl rfl
theorem abLN_23_20 : Cond.classLink "TimberHouseLaw" 20 "TimberHouseModel" ∈ abTW := ab_in12 95 rfl rfl
theorem abLN_a23 : ∀ q ∈ (abLN_l[23]?.getD []), abLN_P 23 q := ab_cn2 abLN_23_8 (ab_cn2 abLN_23_20 ab_nl)
theorem abLN_a24 : ∀ q ∈ (abLN_l[24]?.getD []), abLN_P 24 q := ab_nl
theorem abLN_ok : ∀ o, ∀ q ∈ abLN o, abLN_P o q := ab_fam (P := abLN_P) (L := abLN_l) (And.intro abLN_a0 (And.intro abLN_a1 (And.intro abLN_a2 (And.intro abLN_a3 (And.intro abLN_a4 (And.intro abLN_a5 (And.intro abLN_a6 (And.intro abLN_a7 (And.intro abLN_a8 (And.intro abLN_a9 (And.intro abLN_a10 (And.intro abLN_a11 (And.intro abLN_a12 (And.intro abLN_a13 (And.intro abLN_a14 (And.intro abLN_a15 (And.intro abLN_a16 (And.intro abLN_a17 (And.intro abLN_a18 (And.intro abLN_a19 (And.intro abLN_a20 (And.intro abLN_a21 (And.intro abLN_a22 (And.intro abLN_a23 (And.intro abLN_a24 (trivial))))))))))))))))))))))))))
def abLA_l : List (List (Nat × Nat)) := [[(11, 0)], [(20, 0)], [(15, 0)], [(33, 0), (38, 1)], [(11, 0), (29, 1), (34, 5)], [(21, 0)], [(18, 0)], [(11, 0)], [(11, 0)], [], [(15, 0), (29, 1)], [], [], [], [], [], [], [], [], [], [], [], [], [], []]
noncomputable def abLA (o : Nat) : List (Nat × Nat) := ab_row abLA_l o
def abAn (t : Nat) : String := match t with
  | 0 => "[[I"
  | 1 => "[[J"
  | _ => "[J"
def abLA_P (o : Nat) (q : Nat × Nat) : Prop := Cond.classLink (abCS o) q.1 (abAn q.2) ∈ abTW
theorem abLA_0_11 : Cond.classLink "TimberHouse$Fingers" 11 "[[I" ∈ abTW := ab_in1 216 rfl rfl
theorem abLA_a0 : ∀ q ∈ (abLA_l[0]?.getD []), abLA_P 0 q := ab_cn2 abLA_0_11 ab_nl
theorem abLA_1_20 : Cond.classLink "TimberHouse$Nails" 20 "[[I" ∈ abTW := ab_in2 137 rfl rfl
theorem abLA_a1 : ∀ q ∈ (abLA_l[1]?.getD []), abLA_P 1 q := ab_cn2 abLA_1_20 ab_nl
theorem abLA_2_15 : Cond.classLink "TimberHouse$Plans" 15 "[[I" ∈ abTW := ab_in3 76 rfl rfl
theorem abLA_a2 : ∀ q ∈ (abLA_l[2]?.getD []), abLA_P 2 q := ab_cn2 abLA_2_15 ab_nl
theorem abLA_3_33 : Cond.classLink "TimberHouse$Prices" 33 "[[I" ∈ abTW := ab_in3 147 rfl rfl
theorem abLA_3_38 : Cond.classLink "TimberHouse$Prices" 38 "[[J" ∈ abTW := ab_in3 148 rfl rfl
theorem abLA_a3 : ∀ q ∈ (abLA_l[3]?.getD []), abLA_P 3 q := ab_cn2 abLA_3_33 (ab_cn2 abLA_3_38 ab_nl)
theorem abLA_4_11 : Cond.classLink "TimberHouse$Rips" 11 "[[I" ∈ abTW := ab_in1 113 rfl rfl
theorem abLA_4_29 : Cond.classLink "TimberHouse$Rips" 29 "[[J" ∈ abTW := ab_in1 114 rfl rfl
theorem abLA_4_34 : Cond.classLink "TimberHouse$Rips" 34 "[J" ∈ abTW := ab_in1 116 rfl rfl
theorem abLA_a4 : ∀ q ∈ (abLA_l[4]?.getD []), abLA_P 4 q := ab_cn2 abLA_4_11 (ab_cn2 abLA_4_29 (ab_cn2 abLA_4_34 ab_nl))
theorem abLA_5_21 : Cond.classLink "TimberHouse$Router" 21 "[[I" ∈ abTW := ab_in3 17 rfl rfl
theorem abLA_a5 : ∀ q ∈ (abLA_l[5]?.getD []), abLA_P 5 q := ab_cn2 abLA_5_21 ab_nl
theorem abLA_6_18 : Cond.classLink "TimberHouse$Saw" 18 "[[I" ∈ abTW := ab_in1 51 rfl rfl
theorem abLA_a6 : ∀ q ∈ (abLA_l[6]?.getD []), abLA_P 6 q := ab_cn2 abLA_6_18 ab_nl
theorem abLA_7_11 : Cond.classLink "TimberHouse$Sheets" 11 "[[I" ∈ abTW := ab_in2 187 rfl rfl
theorem abLA_a7 : ∀ q ∈ (abLA_l[7]?.getD []), abLA_P 7 q := ab_cn2 abLA_7_11 ab_nl
theorem abLA_8_11 : Cond.classLink "TimberHouse$Shop" 11 "[[I" ∈ abTW := ab_in3 228 rfl rfl
theorem abLA_a8 : ∀ q ∈ (abLA_l[8]?.getD []), abLA_P 8 q := ab_cn2 abLA_8_11 ab_nl
theorem abLA_a9 : ∀ q ∈ (abLA_l[9]?.getD []), abLA_P 9 q := ab_nl
theorem abLA_10_15 : Cond.classLink "TimberHouse$Turned" 15 "[[I" ∈ abTW := ab_in2 56 rfl rfl
theorem abLA_10_29 : Cond.classLink "TimberHouse$Turned" 29 "[[J" ∈ abTW := ab_in2 57 rfl rfl
theorem abLA_a10 : ∀ q ∈ (abLA_l[10]?.getD []), abLA_P 10 q := ab_cn2 abLA_10_15 (ab_cn2 abLA_10_29 ab_nl)
theorem abLA_a11 : ∀ q ∈ (abLA_l[11]?.getD []), abLA_P 11 q := ab_nl
theorem abLA_a12 : ∀ q ∈ (abLA_l[12]?.getD []), abLA_P 12 q := ab_nl
theorem abLA_a13 : ∀ q ∈ (abLA_l[13]?.getD []), abLA_P 13 q := ab_nl
theorem abLA_a14 : ∀ q ∈ (abLA_l[14]?.getD []), abLA_P 14 q := ab_nl
theorem abLA_a15 : ∀ q ∈ (abLA_l[15]?.getD []), abLA_P 15 q := ab_nl
theorem abLA_a16 : ∀ q ∈ (abLA_l[16]?.getD []), abLA_P 16 q := ab_nl
theorem abLA_a17 : ∀ q ∈ (abLA_l[17]?.getD []), abLA_P 17 q := ab_nl
theorem abLA_a18 : ∀ q ∈ (abLA_l[18]?.getD []), abLA_P 18 q := ab_nl
theorem abLA_a19 : ∀ q ∈ (abLA_l[19]?.getD []), abLA_P 19 q := ab_nl
theorem abLA_a20 : ∀ q ∈ (abLA_l[20]?.getD []), abLA_P 20 q := ab_nl
theorem abLA_a21 : ∀ q ∈ (abLA_l[21]?.getD []), abLA_P 21 q := ab_nl
theorem abLA_a22 : ∀ q ∈ (abLA_l[22]?.getD []), abLA_P 22 q := ab_nl
theorem abLA_a23 : ∀ q ∈ (abLA_l[23]?.getD []), abLA_P 23 q := ab_nl
theorem abLA_a24 : ∀ q ∈ (abLA_l[24]?.getD []), abLA_P 24 q := ab_nl
theorem abLA_ok : ∀ o, ∀ q ∈ abLA o, abLA_P o q := ab_fam (P := abLA_P) (L := abLA_l) (And.intro abLA_a0 (And.intro abLA_a1 (And.intro abLA_a2 (And.intro abLA_a3 (And.intro abLA_a4 (And.intro abLA_a5 (And.intro abLA_a6 (And.intro abLA_a7 (And.intro abLA_a8 (And.intro abLA_a9 (And.intro abLA_a10 (And.intro abLA_a11 (And.intro abLA_a12 (And.intro abLA_a13 (And.intro abLA_a14 (And.intro abLA_a15 (And.intro abLA_a16 (And.intro abLA_a17 (And.intro abLA_a18 (And.intro abLA_a19 (And.intro abLA_a20 (And.intro abLA_a21 (And.intro abLA_a22 (And.intro abLA_a23 (And.intro abLA_a24 (trivial))))))))))))))))))))))))))
def abLM_l : List (List (Nat × Nat)) := [[(45, 28), (87, 40), (91, 48), (94, 29), (97, 33), (101, 43), (105, 39), (108, 46), (111, 50), (115, 42), (118, 34), (121, 32), (124, 36), (127, 47), (130, 31), (133, 45), (147, 41), (154, 27), (164, 37), (167, 628), (172, 44), (181, 38)], [(11, 277), (37, 52), (40, 281), (65, 278), (73, 69), (77, 70), (81, 71), (84, 58), (88, 77), (92, 56), (95, 67), (98, 53), (101, 68), (104, 55), (106, 64), (110, 66), (114, 60), (117, 74), (121, 75), (124, 59), (130, 73), (136, 279), (138, 65), (158, 626), (181, 61), (195, 57), (207, 62), (211, 76), (218, 72), (232, 63)], [(44, 82), (72, 92), (76, 94), (80, 91), (84, 88), (87, 98), (91, 97), (94, 89), (97, 83), (100, 93), (103, 79), (105, 81), (108, 96), (111, 86), (114, 85), (134, 90), (138, 99), (147, 80), (176, 95)], [(11, 277), (71, 101), (74, 281), (99, 278), (107, 120), (111, 109), (115, 110), (119, 122), (122, 104), (126, 116), (130, 106), (134, 107), (137, 105), (141, 117), (144, 119), (147, 108), (150, 111), (154, 115), (157, 123), (160, 114), (165, 121), (174, 282), (199, 112), (211, 125), (215, 124), (221, 102), (229, 113), (232, 118)], [(45, 128), (64, 629), (106, 141), (110, 154), (114, 127), (117, 144), (120, 151), (124, 150), (126, 133), (128, 161), (131, 158), (134, 175), (138, 129), (142, 135), (145, 132), (148, 156), (151, 162), (154, 153), (157, 145), (182, 147), (192, 142), (195, 139), (204, 172), (214, 174), (217, 170), (221, 137), (225, 164), (228, 626), (231, 159), (235, 169), (238, 173), (241, 152), (245, 138), (266, 160), (272, 130), (275, 143), (279, 167), (282, 165), (285, 168), (288, 149), (291, 131), (294, 157), (299, 148), (302, 146), (305, 136), (308, 166), (312, 163), (316, 627), (318, 171), (328, 140)], [(28, 277), (53, 178), (70, 281), (80, 198), (84, 188), (88, 199), (91, 278), (99, 195), (103, 196), (106, 177), (109, 181), (112, 182), (115, 194), (118, 193), (121, 179), (126, 192), (141, 183), (148, 280), (151, 197), (161, 279), (192, 626), (211, 185), (215, 189), (218, 184), (221, 186), (224, 628), (230, 187), (233, 191), (237, 190)], [(69, 207), (73, 219), (77, 211), (80, 217), (83, 215), (87, 201), (91, 202), (95, 223), (98, 224), (101, 213), (104, 204), (108, 222), (117, 214), (132, 218), (138, 212), (182, 210), (194, 220), (198, 209), (204, 628), (214, 205)], [(47, 228), (81, 240), (85, 236), (89, 231), (93, 246), (96, 239), (100, 232), (103, 243), (106, 238), (109, 235), (112, 226), (116, 229), (126, 234), (144, 244), (148, 241), (152, 233), (195, 242), (199, 237)], [(35, 250), (57, 276), (61, 274), (65, 268), (69, 260), (72, 251), (76, 257), (79, 269), (82, 275), (86, 253), (90, 271), (94, 273), (97, 258), (100, 272), (104, 255), (107, 252), (111, 256), (114, 270), (119, 266), (123, 267), (130, 264), (136, 262), (140, 249), (154, 265), (171, 261), (195, 259), (202, 248), (205, 263)], [(15, 628)], [(49, 285), (71, 307), (75, 298), (79, 286), (83, 312), (87, 302), (90, 284), (93, 311), (96, 303), (100, 297), (103, 301), (107, 290), (111, 308), (114, 313), (118, 294), (121, 289), (124, 304), (127, 314), (130, 300), (134, 292), (138, 288), (141, 291), (144, 309), (147, 310), (150, 305), (153, 306), (166, 626), (171, 299), (197, 295), (207, 293), (239, 296)], [(9, 200), (18, 126), (25, 26), (32, 283), (39, 51), (46, 225), (53, 176), (60, 78), (67, 100), (74, 247), (85, 10), (89, 206), (93, 134), (96, 30), (99, 287), (102, 54), (103, 230), (104, 180), (105, 84), (106, 103), (109, 254), (110, 25), (114, 208), (122, 155), (136, 245), (152, 293), (179, 227), (183, 20), (187, 95), (188, 87), (191, 49), (192, 35), (195, 172), (198, 221), (201, 216), (204, 118), (240, 21), (243, 203), (247, 128), (250, 28), (251, 285), (253, 52), (254, 228), (255, 178), (258, 82), (259, 101), (260, 250), (278, 125), (290, 14), (294, 12), (297, 13), (300, 628), (302, 626), (304, 625), (307, 4)], [(75, 351), (92, 348), (128, 359), (154, 343), (157, 357), (160, 364), (166, 354), (170, 352)], [(68, 385), (76, 383), (84, 381), (87, 397), (93, 377), (99, 378), (109, 373), (119, 368), (125, 391), (129, 372), (146, 379), (152, 384)], [(85, 407), (159, 400)], [(86, 430), (107, 426), (114, 445), (126, 434), (144, 427), (169, 441), (172, 435), (181, 425), (185, 444), (189, 420), (200, 417), (207, 443), (210, 437), (216, 436)], [(118, 474), (141, 468), (152, 493), (161, 491), (164, 476), (178, 469), (182, 452), (186, 478), (190, 473), (196, 470), (199, 488), (203, 457), (207, 467), (211, 495), (215, 485), (222, 489), (226, 484), (229, 496), (232, 498), (235, 463), (238, 462), (241, 464), (244, 497), (249, 481), (257, 458), (263, 459), (269, 449), (272, 494), (275, 471), (278, 490), (281, 455), (284, 460), (287, 477)], [(60, 508), (64, 507), (68, 517), (81, 511), (85, 510), (89, 505), (93, 516), (99, 518), (137, 506)], [(60, 532), (64, 531), (76, 534), (116, 530), (119, 533), (123, 540), (130, 529), (146, 528), (156, 542), (163, 544)], [(102, 555), (116, 559), (123, 549), (127, 554), (130, 565), (133, 553), (159, 557)], [(72, 578), (78, 579), (82, 576), (89, 580), (141, 583), (145, 577)], [(64, 602), (84, 606), (117, 603), (121, 600), (142, 607), (165, 609)], [(15, 523), (24, 448), (33, 342), (40, 592), (47, 367), (54, 547), (61, 500), (70, 398), (77, 416), (84, 567), (98, 334), (101, 331), (103, 324), (105, 340), (107, 326), (109, 335), (111, 333), (113, 328), (115, 329), (117, 336), (119, 318), (123, 527), (127, 541), (131, 339), (135, 539), (139, 535), (143, 538), (147, 537), (150, 526), (154, 524), (158, 545), (161, 546), (164, 536), (168, 525), (172, 543), (175, 461), (179, 492), (180, 480), (184, 450), (187, 465), (190, 475), (193, 472), (196, 454), (199, 486), (201, 483), (203, 499), (206, 451), (209, 456), (212, 453), (215, 482), (219, 487), (222, 479), (225, 466), (229, 355), (231, 363), (232, 365), (236, 344), (239, 347), (243, 358), (244, 353), (247, 361), (250, 366), (253, 356), (256, 349), (259, 346), (262, 350), (267, 362), (271, 345), (274, 360), (277, 616), (280, 620), (281, 605), (284, 594), (288, 622), (291, 611), (294, 593), (297, 621), (300, 612), (304, 604), (307, 610), (310, 597), (314, 617), (317, 623), (321, 601), (324, 596), (327, 613), (330, 624), (333, 608), (337, 599), (340, 595), (343, 598), (346, 618), (349, 619), (352, 614), (355, 615), (358, 396), (361, 394), (362, 388), (365, 389), (368, 390), (371, 374), (375, 395), (379, 371), (383, 386), (386, 369), (387, 387), (390, 370), (393, 380), (396, 382), (399, 376), (402, 392), (406, 393), (409, 375), (412, 562), (415, 564), (416, 558), (420, 551), (422, 566), (424, 561), (425, 552), (427, 563), (429, 560), (432, 556), (434, 548), (436, 550), (438, 519), (442, 520), (443, 509), (447, 521), (449, 522), (450, 514), (451, 515), (452, 501), (454, 503), (456, 504), (459, 513), (461, 512), (464, 502), (467, 409), (470, 415), (471, 411), (474, 408), (477, 405), (480, 414), (483, 413), (485, 406), (488, 402), (489, 410), (490, 399), (492, 401), (495, 412), (498, 404), (501, 403), (503, 447), (504, 446), (505, 440), (506, 424), (509, 428), (512, 443), (513, 418), (516, 433), (518, 421), (521, 422), (524, 419), (527, 438), (530, 439), (533, 423), (536, 429), (539, 432), (541, 442), (544, 431), (547, 590), (551, 591), (552, 588), (554, 581), (557, 575), (560, 568), (563, 573), (566, 582), (569, 589), (573, 570), (576, 585), (580, 587), (583, 574), (586, 586), (589, 571), (592, 569), (595, 572), (598, 584), (601, 320), (646, 321)], [(7, 2), (19, 1), (22, 316), (23, 315), (28, 317), (29, 338), (33, 17), (37, 330), (38, 7), (42, 323), (43, 9), (46, 325), (47, 15), (51, 327), (52, 18), (55, 332), (56, 6), (59, 322), (60, 3), (63, 319), (64, 19), (67, 337), (68, 24), (71, 341)], []]
noncomputable def abLM (o : Nat) : List (Nat × Nat) := ab_row abLM_l o
def abLM_P (o : Nat) (q : Nat × Nat) : Prop := Cond.methodLink (abCS o) q.1 (abY q.2) ∈ abTW
theorem abLM_0_45 : Cond.methodLink "TimberHouse$Fingers" 45 ⟨"TimberHouse$Fingers", "anew", "(II)V"⟩ ∈ abTW := ab_in1 217 rfl rfl
theorem abLM_0_87 : Cond.methodLink "TimberHouse$Fingers" 87 ⟨"TimberHouse$Fingers", "piece", "(II)I"⟩ ∈ abTW := ab_in7 176 rfl rfl
theorem abLM_0_91 : Cond.methodLink "TimberHouse$Fingers" 91 ⟨"TimberHouse$Fingers", "want", "(II)I"⟩ ∈ abTW := ab_in7 187 rfl rfl
theorem abLM_0_94 : Cond.methodLink "TimberHouse$Fingers" 94 ⟨"TimberHouse$Fingers", "bar", "(II)I"⟩ ∈ abTW := ab_in7 194 rfl rfl
theorem abLM_0_97 : Cond.methodLink "TimberHouse$Fingers" 97 ⟨"TimberHouse$Fingers", "group", "(IZ)I"⟩ ∈ abTW := ab_in7 198 rfl rfl
theorem abLM_0_101 : Cond.methodLink "TimberHouse$Fingers" 101 ⟨"TimberHouse$Fingers", "run", "()I"⟩ ∈ abTW := ab_in7 202 rfl rfl
theorem abLM_0_105 : Cond.methodLink "TimberHouse$Fingers" 105 ⟨"TimberHouse$Fingers", "order", "(I)I"⟩ ∈ abTW := ab_in7 237 rfl rfl
theorem abLM_0_108 : Cond.methodLink "TimberHouse$Fingers" 108 ⟨"TimberHouse$Fingers", "taken", "(I)I"⟩ ∈ abTW := ab_in8 12 rfl rfl
theorem abLM_0_111 : Cond.methodLink "TimberHouse$Fingers" 111 ⟨"TimberHouse$Fingers", "worth", "(I)J"⟩ ∈ abTW := ab_in8 18 rfl rfl
theorem abLM_0_115 : Cond.methodLink "TimberHouse$Fingers" 115 ⟨"TimberHouse$Fingers", "product", "(II)I"⟩ ∈ abTW := ab_in8 23 rfl rfl
theorem abLM_0_118 : Cond.methodLink "TimberHouse$Fingers" 118 ⟨"TimberHouse$Fingers", "joint", "(II)I"⟩ ∈ abTW := ab_in8 27 rfl rfl
theorem abLM_0_121 : Cond.methodLink "TimberHouse$Fingers" 121 ⟨"TimberHouse$Fingers", "cure", "(II)I"⟩ ∈ abTW := ab_in8 31 rfl rfl
theorem abLM_0_124 : Cond.methodLink "TimberHouse$Fingers" 124 ⟨"TimberHouse$Fingers", "load", "(II)I"⟩ ∈ abTW := ab_in8 35 rfl rfl
theorem abLM_0_127 : Cond.methodLink "TimberHouse$Fingers" 127 ⟨"TimberHouse$Fingers", "test", "(II)I"⟩ ∈ abTW := ab_in8 40 rfl rfl
theorem abLM_0_130 : Cond.methodLink "TimberHouse$Fingers" 130 ⟨"TimberHouse$Fingers", "counted", "(I)I"⟩ ∈ abTW := ab_in8 48 rfl rfl
theorem abLM_0_133 : Cond.methodLink "TimberHouse$Fingers" 133 ⟨"TimberHouse$Fingers", "stop", "(I)I"⟩ ∈ abTW := ab_in8 52 rfl rfl
theorem abLM_0_147 : Cond.methodLink "TimberHouse$Fingers" 147 ⟨"TimberHouse$Fingers", "pieceFault", "(II)I"⟩ ∈ abTW := ab_in4 135 rfl rfl
theorem abLM_0_154 : Cond.methodLink "TimberHouse$Fingers" 154 ⟨"TimberHouse$Fingers", "addPiece", "(II)I"⟩ ∈ abTW := ab_in7 186 rfl rfl
theorem abLM_0_164 : Cond.methodLink "TimberHouse$Fingers" 164 ⟨"TimberHouse$Fingers", "makeLine", "()I"⟩ ∈ abTW := ab_in7 206 rfl rfl
theorem abLM_0_167 : Cond.methodLink "TimberHouse$Fingers" 167 ⟨"java/lang/Math", "min", "(II)I"⟩ ∈ abTW := ab_in8 1 rfl rfl
theorem abLM_0_172 : Cond.methodLink "TimberHouse$Fingers" 172 ⟨"TimberHouse$Fingers", "solve", "(II)V"⟩ ∈ abTW := ab_in7 210 rfl rfl
theorem abLM_0_181 : Cond.methodLink "TimberHouse$Fingers" 181 ⟨"TimberHouse$Fingers", "nextOrder", "(I)Z"⟩ ∈ abTW := ab_in8 4 rfl rfl
theorem abLM_a0 : ∀ q ∈ (abLM_l[0]?.getD []), abLM_P 0 q := ab_cn2 abLM_0_45 (ab_cn2 abLM_0_87 (ab_cn2 abLM_0_91 (ab_cn2 abLM_0_94 (ab_cn2 abLM_0_97 (ab_cn2 abLM_0_101 (ab_cn2 abLM_0_105 (ab_cn2 abLM_0_108 (ab_cn2 abLM_0_111 (ab_cn2 abLM_0_115 (ab_cn2 abLM_0_118 (ab_cn2 abLM_0_121 (ab_cn2 abLM_0_124 (ab_cn2 abLM_0_127 (ab_cn2 abLM_0_130 (ab_cn2 abLM_0_133 (ab_cn2 abLM_0_147 (ab_cn2 abLM_0_154 (ab_cn2 abLM_0_164 (ab_cn2 abLM_0_167 (ab_cn2 abLM_0_172 (ab_cn2 abLM_0_181 ab_nl)))))))))))))))))))))
theorem abLM_1_11 : Cond.methodLink "TimberHouse$Nails" 11 ⟨"TimberHouse$Text", "<init>", "(I)V"⟩ ∈ abTW := ab_in2 122 rfl rfl
theorem abLM_1_37 : Cond.methodLink "TimberHouse$Nails" 37 ⟨"TimberHouse$Nails", "anew", "()V"⟩ ∈ abTW := ab_in2 138 rfl rfl
theorem abLM_1_40 : Cond.methodLink "TimberHouse$Nails" 40 ⟨"TimberHouse$Text", "clear", "()V"⟩ ∈ abTW := ab_in2 142 rfl rfl
theorem abLM_1_65 : Cond.methodLink "TimberHouse$Nails" 65 ⟨"TimberHouse$Text", "add", "(I)Z"⟩ ∈ abTW := ab_in8 204 rfl rfl
theorem abLM_1_73 : Cond.methodLink "TimberHouse$Nails" 73 ⟨"TimberHouse$Nails", "read", "()I"⟩ ∈ abTW := ab_in8 206 rfl rfl
theorem abLM_1_77 : Cond.methodLink "TimberHouse$Nails" 77 ⟨"TimberHouse$Nails", "rule", "(II)I"⟩ ∈ abTW := ab_in9 15 rfl rfl
theorem abLM_1_81 : Cond.methodLink "TimberHouse$Nails" 81 ⟨"TimberHouse$Nails", "set", "(II)I"⟩ ∈ abTW := ab_in9 24 rfl rfl
theorem abLM_1_84 : Cond.methodLink "TimberHouse$Nails" 84 ⟨"TimberHouse$Nails", "holds", "(IIIII)J"⟩ ∈ abTW := ab_in9 29 rfl rfl
theorem abLM_1_88 : Cond.methodLink "TimberHouse$Nails" 88 ⟨"TimberHouse$Nails", "togetherOf", "(II)J"⟩ ∈ abTW := ab_in9 41 rfl rfl
theorem abLM_1_92 : Cond.methodLink "TimberHouse$Nails" 92 ⟨"TimberHouse$Nails", "count", "(II)I"⟩ ∈ abTW := ab_in9 53 rfl rfl
theorem abLM_1_95 : Cond.methodLink "TimberHouse$Nails" 95 ⟨"TimberHouse$Nails", "pattern", "(IIII)I"⟩ ∈ abTW := ab_in9 57 rfl rfl
theorem abLM_1_98 : Cond.methodLink "TimberHouse$Nails" 98 ⟨"TimberHouse$Nails", "at", "(II)I"⟩ ∈ abTW := ab_in9 67 rfl rfl
theorem abLM_1_101 : Cond.methodLink "TimberHouse$Nails" 101 ⟨"TimberHouse$Nails", "place", "(II)I"⟩ ∈ abTW := ab_in9 72 rfl rfl
theorem abLM_1_104 : Cond.methodLink "TimberHouse$Nails" 104 ⟨"TimberHouse$Nails", "clear", "()I"⟩ ∈ abTW := ab_in9 76 rfl rfl
theorem abLM_1_106 : Cond.methodLink "TimberHouse$Nails" 106 ⟨"TimberHouse$Nails", "keeps", "(III)I"⟩ ∈ abTW := ab_in9 80 rfl rfl
theorem abLM_1_110 : Cond.methodLink "TimberHouse$Nails" 110 ⟨"TimberHouse$Nails", "member", "(IIIII)I"⟩ ∈ abTW := ab_in9 87 rfl rfl
theorem abLM_1_114 : Cond.methodLink "TimberHouse$Nails" 114 ⟨"TimberHouse$Nails", "in", "(III)I"⟩ ∈ abTW := ab_in9 94 rfl rfl
theorem abLM_1_117 : Cond.methodLink "TimberHouse$Nails" 117 ⟨"TimberHouse$Nails", "teeth", "(IIIIII)I"⟩ ∈ abTW := ab_in9 102 rfl rfl
theorem abLM_1_121 : Cond.methodLink "TimberHouse$Nails" 121 ⟨"TimberHouse$Nails", "thick", "(II)I"⟩ ∈ abTW := ab_in9 106 rfl rfl
theorem abLM_1_124 : Cond.methodLink "TimberHouse$Nails" 124 ⟨"TimberHouse$Nails", "hole", "(I)I"⟩ ∈ abTW := ab_in9 110 rfl rfl
theorem abLM_1_130 : Cond.methodLink "TimberHouse$Nails" 130 ⟨"TimberHouse$Nails", "statement", "(II)I"⟩ ∈ abTW := ab_in8 210 rfl rfl
theorem abLM_1_136 : Cond.methodLink "TimberHouse$Nails" 136 ⟨"TimberHouse$Text", "at", "(I)I"⟩ ∈ abTW := ab_in8 214 rfl rfl
theorem abLM_1_138 : Cond.methodLink "TimberHouse$Nails" 138 ⟨"TimberHouse$Nails", "kindOf", "(I)I"⟩ ∈ abTW := ab_in8 218 rfl rfl
theorem abLM_1_158 : Cond.methodLink "TimberHouse$Nails" 158 ⟨"java/lang/Math", "max", "(II)I"⟩ ∈ abTW := ab_in8 237 rfl rfl
theorem abLM_1_181 : Cond.methodLink "TimberHouse$Nails" 181 ⟨"TimberHouse$Nails", "isKind", "(I)Z"⟩ ∈ abTW := ab_in9 19 rfl rfl
theorem abLM_1_195 : Cond.methodLink "TimberHouse$Nails" 195 ⟨"TimberHouse$Nails", "formula", "(IIII)J"⟩ ∈ abTW := ab_in9 33 rfl rfl
theorem abLM_1_207 : Cond.methodLink "TimberHouse$Nails" 207 ⟨"TimberHouse$Nails", "isLoad", "(J)Z"⟩ ∈ abTW := ab_in9 45 rfl rfl
theorem abLM_1_211 : Cond.methodLink "TimberHouse$Nails" 211 ⟨"TimberHouse$Nails", "together", "(IJ)J"⟩ ∈ abTW := ab_in9 49 rfl rfl
theorem abLM_1_218 : Cond.methodLink "TimberHouse$Nails" 218 ⟨"TimberHouse$Nails", "space", "(II)J"⟩ ∈ abTW := ab_in9 62 rfl rfl
theorem abLM_1_232 : Cond.methodLink "TimberHouse$Nails" 232 ⟨"TimberHouse$Nails", "isNear", "(I)Z"⟩ ∈ abTW := ab_in9 91 rfl rfl
theorem abLM_a1 : ∀ q ∈ (abLM_l[1]?.getD []), abLM_P 1 q := ab_cn2 abLM_1_11 (ab_cn2 abLM_1_37 (ab_cn2 abLM_1_40 (ab_cn2 abLM_1_65 (ab_cn2 abLM_1_73 (ab_cn2 abLM_1_77 (ab_cn2 abLM_1_81 (ab_cn2 abLM_1_84 (ab_cn2 abLM_1_88 (ab_cn2 abLM_1_92 (ab_cn2 abLM_1_95 (ab_cn2 abLM_1_98 (ab_cn2 abLM_1_101 (ab_cn2 abLM_1_104 (ab_cn2 abLM_1_106 (ab_cn2 abLM_1_110 (ab_cn2 abLM_1_114 (ab_cn2 abLM_1_117 (ab_cn2 abLM_1_121 (ab_cn2 abLM_1_124 (ab_cn2 abLM_1_130 (ab_cn2 abLM_1_136 (ab_cn2 abLM_1_138 (ab_cn2 abLM_1_158 (ab_cn2 abLM_1_181 (ab_cn2 abLM_1_195 (ab_cn2 abLM_1_207 (ab_cn2 abLM_1_211 (ab_cn2 abLM_1_218 (ab_cn2 abLM_1_232 ab_nl)))))))))))))))))))))))))))))
theorem abLM_2_44 : Cond.methodLink "TimberHouse$Plans" 44 ⟨"TimberHouse$Plans", "anew", "(I)V"⟩ ∈ abTW := ab_in3 77 rfl rfl
theorem abLM_2_72 : Cond.methodLink "TimberHouse$Plans" 72 ⟨"TimberHouse$Plans", "machine", "(I)I"⟩ ∈ abTW := ab_in10 133 rfl rfl
theorem abLM_2_76 : Cond.methodLink "TimberHouse$Plans" 76 ⟨"TimberHouse$Plans", "out", "(III)I"⟩ ∈ abTW := ab_in10 139 rfl rfl
theorem abLM_2_80 : Cond.methodLink "TimberHouse$Plans" 80 ⟨"TimberHouse$Plans", "job", "(II)I"⟩ ∈ abTW := ab_in10 144 rfl rfl
theorem abLM_2_84 : Cond.methodLink "TimberHouse$Plans" 84 ⟨"TimberHouse$Plans", "due", "(II)I"⟩ ∈ abTW := ab_in10 148 rfl rfl
theorem abLM_2_87 : Cond.methodLink "TimberHouse$Plans" 87 ⟨"TimberHouse$Plans", "step", "(IIII)I"⟩ ∈ abTW := ab_in10 152 rfl rfl
theorem abLM_2_91 : Cond.methodLink "TimberHouse$Plans" 91 ⟨"TimberHouse$Plans", "run", "(I)I"⟩ ∈ abTW := ab_in10 158 rfl rfl
theorem abLM_2_94 : Cond.methodLink "TimberHouse$Plans" 94 ⟨"TimberHouse$Plans", "improve", "(I)I"⟩ ∈ abTW := ab_in10 227 rfl rfl
theorem abLM_2_97 : Cond.methodLink "TimberHouse$Plans" 97 ⟨"TimberHouse$Plans", "at", "(II)I"⟩ ∈ abTW := ab_in11 2 rfl rfl
theorem abLM_2_100 : Cond.methodLink "TimberHouse$Plans" 100 ⟨"TimberHouse$Plans", "order", "(I)I"⟩ ∈ abTW := ab_in11 6 rfl rfl
theorem abLM_2_103 : Cond.methodLink "TimberHouse$Plans" 103 ⟨"TimberHouse$Plans", "about", "(I)I"⟩ ∈ abTW := ab_in11 10 rfl rfl
theorem abLM_2_105 : Cond.methodLink "TimberHouse$Plans" 105 ⟨"TimberHouse$Plans", "aloneOf", "(I)I"⟩ ∈ abTW := ab_in11 14 rfl rfl
theorem abLM_2_108 : Cond.methodLink "TimberHouse$Plans" 108 ⟨"TimberHouse$Plans", "promise", "(I)I"⟩ ∈ abTW := ab_in11 18 rfl rfl
theorem abLM_2_111 : Cond.methodLink "TimberHouse$Plans" 111 ⟨"TimberHouse$Plans", "clash", "(I)I"⟩ ∈ abTW := ab_in11 22 rfl rfl
theorem abLM_2_114 : Cond.methodLink "TimberHouse$Plans" 114 ⟨"TimberHouse$Plans", "check", "()I"⟩ ∈ abTW := ab_in11 30 rfl rfl
theorem abLM_2_134 : Cond.methodLink "TimberHouse$Plans" 134 ⟨"TimberHouse$Plans", "isJob", "(I)Z"⟩ ∈ abTW := ab_in4 177 rfl rfl
theorem abLM_2_138 : Cond.methodLink "TimberHouse$Plans" 138 ⟨"TimberHouse$Plans", "stepFault", "(IIII)I"⟩ ∈ abTW := ab_in4 173 rfl rfl
theorem abLM_2_147 : Cond.methodLink "TimberHouse$Plans" 147 ⟨"TimberHouse$Plans", "allFit", "()Z"⟩ ∈ abTW := ab_in10 162 rfl rfl
theorem abLM_2_176 : Cond.methodLink "TimberHouse$Plans" 176 ⟨"TimberHouse$Plans", "planned", "()Z"⟩ ∈ abTW := ab_in10 231 rfl rfl
theorem abLM_a2 : ∀ q ∈ (abLM_l[2]?.getD []), abLM_P 2 q := ab_cn2 abLM_2_44 (ab_cn2 abLM_2_72 (ab_cn2 abLM_2_76 (ab_cn2 abLM_2_80 (ab_cn2 abLM_2_84 (ab_cn2 abLM_2_87 (ab_cn2 abLM_2_91 (ab_cn2 abLM_2_94 (ab_cn2 abLM_2_97 (ab_cn2 abLM_2_100 (ab_cn2 abLM_2_103 (ab_cn2 abLM_2_105 (ab_cn2 abLM_2_108 (ab_cn2 abLM_2_111 (ab_cn2 abLM_2_114 (ab_cn2 abLM_2_134 (ab_cn2 abLM_2_138 (ab_cn2 abLM_2_147 (ab_cn2 abLM_2_176 ab_nl))))))))))))))))))
theorem abLM_3_11 : Cond.methodLink "TimberHouse$Prices" 11 ⟨"TimberHouse$Text", "<init>", "(I)V"⟩ ∈ abTW := ab_in3 146 rfl rfl
theorem abLM_3_71 : Cond.methodLink "TimberHouse$Prices" 71 ⟨"TimberHouse$Prices", "anew", "()V"⟩ ∈ abTW := ab_in3 149 rfl rfl
theorem abLM_3_74 : Cond.methodLink "TimberHouse$Prices" 74 ⟨"TimberHouse$Text", "clear", "()V"⟩ ∈ abTW := ab_in3 153 rfl rfl
theorem abLM_3_99 : Cond.methodLink "TimberHouse$Prices" 99 ⟨"TimberHouse$Text", "add", "(I)Z"⟩ ∈ abTW := ab_in11 59 rfl rfl
theorem abLM_3_107 : Cond.methodLink "TimberHouse$Prices" 107 ⟨"TimberHouse$Prices", "read", "()I"⟩ ∈ abTW := ab_in11 61 rfl rfl
theorem abLM_3_111 : Cond.methodLink "TimberHouse$Prices" 111 ⟨"TimberHouse$Prices", "fact", "(III)I"⟩ ∈ abTW := ab_in11 84 rfl rfl
theorem abLM_3_115 : Cond.methodLink "TimberHouse$Prices" 115 ⟨"TimberHouse$Prices", "forget", "(I)I"⟩ ∈ abTW := ab_in11 93 rfl rfl
theorem abLM_3_119 : Cond.methodLink "TimberHouse$Prices" 119 ⟨"TimberHouse$Prices", "reckon", "()I"⟩ ∈ abTW := ab_in11 97 rfl rfl
theorem abLM_3_122 : Cond.methodLink "TimberHouse$Prices" 122 ⟨"TimberHouse$Prices", "cents", "()J"⟩ ∈ abTW := ab_in11 128 rfl rfl
theorem abLM_3_126 : Cond.methodLink "TimberHouse$Prices" 126 ⟨"TimberHouse$Prices", "line", "(II)J"⟩ ∈ abTW := ab_in11 136 rfl rfl
theorem abLM_3_130 : Cond.methodLink "TimberHouse$Prices" 130 ⟨"TimberHouse$Prices", "changed", "(III)J"⟩ ∈ abTW := ab_in11 140 rfl rfl
theorem abLM_3_134 : Cond.methodLink "TimberHouse$Prices" 134 ⟨"TimberHouse$Prices", "currency", "(III)I"⟩ ∈ abTW := ab_in11 144 rfl rfl
theorem abLM_3_137 : Cond.methodLink "TimberHouse$Prices" 137 ⟨"TimberHouse$Prices", "centsAt", "(I)J"⟩ ∈ abTW := ab_in11 149 rfl rfl
theorem abLM_3_141 : Cond.methodLink "TimberHouse$Prices" 141 ⟨"TimberHouse$Prices", "offer", "(I)I"⟩ ∈ abTW := ab_in11 157 rfl rfl
theorem abLM_3_144 : Cond.methodLink "TimberHouse$Prices" 144 ⟨"TimberHouse$Prices", "offered", "(II)J"⟩ ∈ abTW := ab_in11 161 rfl rfl
theorem abLM_3_147 : Cond.methodLink "TimberHouse$Prices" 147 ⟨"TimberHouse$Prices", "differs", "(II)J"⟩ ∈ abTW := ab_in11 167 rfl rfl
theorem abLM_3_150 : Cond.methodLink "TimberHouse$Prices" 150 ⟨"TimberHouse$Prices", "invoice", "(II)I"⟩ ∈ abTW := ab_in11 171 rfl rfl
theorem abLM_3_154 : Cond.methodLink "TimberHouse$Prices" 154 ⟨"TimberHouse$Prices", "left", "(I)J"⟩ ∈ abTW := ab_in11 175 rfl rfl
theorem abLM_3_157 : Cond.methodLink "TimberHouse$Prices" 157 ⟨"TimberHouse$Prices", "refund", "(II)I"⟩ ∈ abTW := ab_in11 179 rfl rfl
theorem abLM_3_160 : Cond.methodLink "TimberHouse$Prices" 160 ⟨"TimberHouse$Prices", "learn", "(II)J"⟩ ∈ abTW := ab_in11 183 rfl rfl
theorem abLM_3_165 : Cond.methodLink "TimberHouse$Prices" 165 ⟨"TimberHouse$Prices", "readSigns", "()I"⟩ ∈ abTW := ab_in11 65 rfl rfl
theorem abLM_3_174 : Cond.methodLink "TimberHouse$Prices" 174 ⟨"TimberHouse$Text", "length", "()I"⟩ ∈ abTW := ab_in11 69 rfl rfl
theorem abLM_3_199 : Cond.methodLink "TimberHouse$Prices" 199 ⟨"TimberHouse$Prices", "isFact", "(I)Z"⟩ ∈ abTW := ab_in5 90 rfl rfl
theorem abLM_3_211 : Cond.methodLink "TimberHouse$Prices" 211 ⟨"TimberHouse$Prices", "setFact", "(III)V"⟩ ∈ abTW := ab_in11 92 rfl rfl
theorem abLM_3_215 : Cond.methodLink "TimberHouse$Prices" 215 ⟨"TimberHouse$Prices", "roundedTotal", "()J"⟩ ∈ abTW := ab_in11 132 rfl rfl
theorem abLM_3_221 : Cond.methodLink "TimberHouse$Prices" 221 ⟨"TimberHouse$Prices", "atDay", "(JI)J"⟩ ∈ abTW := ab_in11 153 rfl rfl
theorem abLM_3_229 : Cond.methodLink "TimberHouse$Prices" 229 ⟨"TimberHouse$Prices", "isOffer", "(I)Z"⟩ ∈ abTW := ab_in5 146 rfl rfl
theorem abLM_3_232 : Cond.methodLink "TimberHouse$Prices" 232 ⟨"TimberHouse$Prices", "offerFault", "(II)I"⟩ ∈ abTW := ab_in11 165 rfl rfl
theorem abLM_a3 : ∀ q ∈ (abLM_l[3]?.getD []), abLM_P 3 q := ab_cn2 abLM_3_11 (ab_cn2 abLM_3_71 (ab_cn2 abLM_3_74 (ab_cn2 abLM_3_99 (ab_cn2 abLM_3_107 (ab_cn2 abLM_3_111 (ab_cn2 abLM_3_115 (ab_cn2 abLM_3_119 (ab_cn2 abLM_3_122 (ab_cn2 abLM_3_126 (ab_cn2 abLM_3_130 (ab_cn2 abLM_3_134 (ab_cn2 abLM_3_137 (ab_cn2 abLM_3_141 (ab_cn2 abLM_3_144 (ab_cn2 abLM_3_147 (ab_cn2 abLM_3_150 (ab_cn2 abLM_3_154 (ab_cn2 abLM_3_157 (ab_cn2 abLM_3_160 (ab_cn2 abLM_3_165 (ab_cn2 abLM_3_174 (ab_cn2 abLM_3_199 (ab_cn2 abLM_3_211 (ab_cn2 abLM_3_215 (ab_cn2 abLM_3_221 (ab_cn2 abLM_3_229 (ab_cn2 abLM_3_232 ab_nl)))))))))))))))))))))))))))
theorem abLM_4_45 : Cond.methodLink "TimberHouse$Rips" 45 ⟨"TimberHouse$Rips", "anew", "(III)V"⟩ ∈ abTW := ab_in1 117 rfl rfl
theorem abLM_4_64 : Cond.methodLink "TimberHouse$Rips" 64 ⟨"java/lang/Math", "min", "(JJ)J"⟩ ∈ abTW := ab_in1 138 rfl rfl
theorem abLM_4_106 : Cond.methodLink "TimberHouse$Rips" 106 ⟨"TimberHouse$Rips", "fault", "(IIIIII)I"⟩ ∈ abTW := ab_in6 199 rfl rfl
theorem abLM_4_110 : Cond.methodLink "TimberHouse$Rips" 110 ⟨"TimberHouse$Rips", "piece", "(IIII)I"⟩ ∈ abTW := ab_in6 207 rfl rfl
theorem abLM_4_114 : Cond.methodLink "TimberHouse$Rips" 114 ⟨"TimberHouse$Rips", "allows", "(III)I"⟩ ∈ abTW := ab_in6 213 rfl rfl
theorem abLM_4_117 : Cond.methodLink "TimberHouse$Rips" 117 ⟨"TimberHouse$Rips", "gang", "(I)I"⟩ ∈ abTW := ab_in6 217 rfl rfl
theorem abLM_4_120 : Cond.methodLink "TimberHouse$Rips" 120 ⟨"TimberHouse$Rips", "need", "(II)I"⟩ ∈ abTW := ab_in6 225 rfl rfl
theorem abLM_4_124 : Cond.methodLink "TimberHouse$Rips" 124 ⟨"TimberHouse$Rips", "margin", "(I)I"⟩ ∈ abTW := ab_in6 229 rfl rfl
theorem abLM_4_126 : Cond.methodLink "TimberHouse$Rips" 126 ⟨"TimberHouse$Rips", "bow", "(I)I"⟩ ∈ abTW := ab_in6 233 rfl rfl
theorem abLM_4_128 : Cond.methodLink "TimberHouse$Rips" 128 ⟨"TimberHouse$Rips", "run", "(II)I"⟩ ∈ abTW := ab_in6 237 rfl rfl
theorem abLM_4_131 : Cond.methodLink "TimberHouse$Rips" 131 ⟨"TimberHouse$Rips", "prices", "(I)I"⟩ ∈ abTW := ab_in7 87 rfl rfl
theorem abLM_4_134 : Cond.methodLink "TimberHouse$Rips" 134 ⟨"TimberHouse$Rips", "worth", "()J"⟩ ∈ abTW := ab_in7 126 rfl rfl
theorem abLM_4_138 : Cond.methodLink "TimberHouse$Rips" 138 ⟨"TimberHouse$Rips", "at", "(II)J"⟩ ∈ abTW := ab_in7 130 rfl rfl
theorem abLM_4_142 : Cond.methodLink "TimberHouse$Rips" 142 ⟨"TimberHouse$Rips", "clear", "(I)I"⟩ ∈ abTW := ab_in7 134 rfl rfl
theorem abLM_4_145 : Cond.methodLink "TimberHouse$Rips" 145 ⟨"TimberHouse$Rips", "bound", "()J"⟩ ∈ abTW := ab_in7 138 rfl rfl
theorem abLM_4_148 : Cond.methodLink "TimberHouse$Rips" 148 ⟨"TimberHouse$Rips", "price", "(II)J"⟩ ∈ abTW := ab_in7 142 rfl rfl
theorem abLM_4_151 : Cond.methodLink "TimberHouse$Rips" 151 ⟨"TimberHouse$Rips", "salvage", "(II)I"⟩ ∈ abTW := ab_in7 146 rfl rfl
theorem abLM_4_154 : Cond.methodLink "TimberHouse$Rips" 154 ⟨"TimberHouse$Rips", "panel", "(II)I"⟩ ∈ abTW := ab_in7 154 rfl rfl
theorem abLM_4_157 : Cond.methodLink "TimberHouse$Rips" 157 ⟨"TimberHouse$Rips", "greatest", "()I"⟩ ∈ abTW := ab_in7 167 rfl rfl
theorem abLM_4_182 : Cond.methodLink "TimberHouse$Rips" 182 ⟨"TimberHouse$Rips", "inGang", "(I)Z"⟩ ∈ abTW := ab_in6 221 rfl rfl
theorem abLM_4_192 : Cond.methodLink "TimberHouse$Rips" 192 ⟨"TimberHouse$Rips", "fit", "()V"⟩ ∈ abTW := ab_in7 2 rfl rfl
theorem abLM_4_195 : Cond.methodLink "TimberHouse$Rips" 195 ⟨"TimberHouse$Rips", "cut", "()V"⟩ ∈ abTW := ab_in7 22 rfl rfl
theorem abLM_4_204 : Cond.methodLink "TimberHouse$Rips" 204 ⟨"TimberHouse$Rips", "trueWorth", "()J"⟩ ∈ abTW := ab_in7 86 rfl rfl
theorem abLM_4_214 : Cond.methodLink "TimberHouse$Rips" 214 ⟨"TimberHouse$Rips", "value", "()J"⟩ ∈ abTW := ab_in7 93 rfl rfl
theorem abLM_4_217 : Cond.methodLink "TimberHouse$Rips" 217 ⟨"TimberHouse$Rips", "tooMany", "()Z"⟩ ∈ abTW := ab_in7 102 rfl rfl
theorem abLM_4_221 : Cond.methodLink "TimberHouse$Rips" 221 ⟨"TimberHouse$Rips", "copy", "([[I[[I)V"⟩ ∈ abTW := ab_in7 106 rfl rfl
theorem abLM_4_225 : Cond.methodLink "TimberHouse$Rips" 225 ⟨"TimberHouse$Rips", "settled", "()Z"⟩ ∈ abTW := ab_in7 109 rfl rfl
theorem abLM_4_228 : Cond.methodLink "TimberHouse$Rips" 228 ⟨"java/lang/Math", "max", "(II)I"⟩ ∈ abTW := ab_in7 113 rfl rfl
theorem abLM_4_231 : Cond.methodLink "TimberHouse$Rips" 231 ⟨"TimberHouse$Rips", "raise", "(I)V"⟩ ∈ abTW := ab_in7 114 rfl rfl
theorem abLM_4_235 : Cond.methodLink "TimberHouse$Rips" 235 ⟨"TimberHouse$Rips", "takeOff", "()V"⟩ ∈ abTW := ab_in7 118 rfl rfl
theorem abLM_4_238 : Cond.methodLink "TimberHouse$Rips" 238 ⟨"TimberHouse$Rips", "trueWorth", "(I)J"⟩ ∈ abTW := ab_in5 114 rfl rfl
theorem abLM_4_241 : Cond.methodLink "TimberHouse$Rips" 241 ⟨"TimberHouse$Rips", "overlaps", "(IIIII)Z"⟩ ∈ abTW := ab_in7 11 rfl rfl
theorem abLM_4_245 : Cond.methodLink "TimberHouse$Rips" 245 ⟨"TimberHouse$Rips", "count", "(I)I"⟩ ∈ abTW := ab_in7 97 rfl rfl
theorem abLM_4_266 : Cond.methodLink "TimberHouse$Rips" 266 ⟨"TimberHouse$Rips", "rectangle", "(IIII)I"⟩ ∈ abTW := ab_in7 19 rfl rfl
theorem abLM_4_272 : Cond.methodLink "TimberHouse$Rips" 272 ⟨"TimberHouse$Rips", "badSteps", "(III)I"⟩ ∈ abTW := ab_in7 7 rfl rfl
theorem abLM_4_275 : Cond.methodLink "TimberHouse$Rips" 275 ⟨"TimberHouse$Rips", "fitRow", "(IIII)V"⟩ ∈ abTW := ab_in7 15 rfl rfl
theorem abLM_4_279 : Cond.methodLink "TimberHouse$Rips" 279 ⟨"TimberHouse$Rips", "solveNoStage", "()V"⟩ ∈ abTW := ab_in7 26 rfl rfl
theorem abLM_4_282 : Cond.methodLink "TimberHouse$Rips" 282 ⟨"TimberHouse$Rips", "solveLevel", "(I)V"⟩ ∈ abTW := ab_in7 39 rfl rfl
theorem abLM_4_285 : Cond.methodLink "TimberHouse$Rips" 285 ⟨"TimberHouse$Rips", "solveTop", "()V"⟩ ∈ abTW := ab_in7 63 rfl rfl
theorem abLM_4_288 : Cond.methodLink "TimberHouse$Rips" 288 ⟨"TimberHouse$Rips", "layTop", "()V"⟩ ∈ abTW := ab_in7 71 rfl rfl
theorem abLM_4_291 : Cond.methodLink "TimberHouse$Rips" 291 ⟨"TimberHouse$Rips", "bestPiece", "(II)I"⟩ ∈ abTW := ab_in7 30 rfl rfl
theorem abLM_4_294 : Cond.methodLink "TimberHouse$Rips" 294 ⟨"TimberHouse$Rips", "pricedWorth", "(II)J"⟩ ∈ abTW := ab_in7 34 rfl rfl
theorem abLM_4_299 : Cond.methodLink "TimberHouse$Rips" 299 ⟨"TimberHouse$Rips", "isRipped", "(I)Z"⟩ ∈ abTW := ab_in7 43 rfl rfl
theorem abLM_4_302 : Cond.methodLink "TimberHouse$Rips" 302 ⟨"TimberHouse$Rips", "hasWidth", "(I)Z"⟩ ∈ abTW := ab_in7 47 rfl rfl
theorem abLM_4_305 : Cond.methodLink "TimberHouse$Rips" 305 ⟨"TimberHouse$Rips", "clearLine", "(III)V"⟩ ∈ abTW := ab_in7 51 rfl rfl
theorem abLM_4_308 : Cond.methodLink "TimberHouse$Rips" 308 ⟨"TimberHouse$Rips", "solveLine", "(IZIII)V"⟩ ∈ abTW := ab_in7 55 rfl rfl
theorem abLM_4_312 : Cond.methodLink "TimberHouse$Rips" 312 ⟨"TimberHouse$Rips", "segment", "(ZIIII)I"⟩ ∈ abTW := ab_in7 59 rfl rfl
theorem abLM_4_316 : Cond.methodLink "TimberHouse$Rips" 316 ⟨"java/lang/Math", "max", "(JJ)J"⟩ ∈ abTW := ab_in7 62 rfl rfl
theorem abLM_4_318 : Cond.methodLink "TimberHouse$Rips" 318 ⟨"TimberHouse$Rips", "topKey", "(II)J"⟩ ∈ abTW := ab_in7 67 rfl rfl
theorem abLM_4_328 : Cond.methodLink "TimberHouse$Rips" 328 ⟨"TimberHouse$Rips", "drop", "(I)V"⟩ ∈ abTW := ab_in7 122 rfl rfl
theorem abLM_a4 : ∀ q ∈ (abLM_l[4]?.getD []), abLM_P 4 q := ab_cn2 abLM_4_45 (ab_cn2 abLM_4_64 (ab_cn2 abLM_4_106 (ab_cn2 abLM_4_110 (ab_cn2 abLM_4_114 (ab_cn2 abLM_4_117 (ab_cn2 abLM_4_120 (ab_cn2 abLM_4_124 (ab_cn2 abLM_4_126 (ab_cn2 abLM_4_128 (ab_cn2 abLM_4_131 (ab_cn2 abLM_4_134 (ab_cn2 abLM_4_138 (ab_cn2 abLM_4_142 (ab_cn2 abLM_4_145 (ab_cn2 abLM_4_148 (ab_cn2 abLM_4_151 (ab_cn2 abLM_4_154 (ab_cn2 abLM_4_157 (ab_cn2 abLM_4_182 (ab_cn2 abLM_4_192 (ab_cn2 abLM_4_195 (ab_cn2 abLM_4_204 (ab_cn2 abLM_4_214 (ab_cn2 abLM_4_217 (ab_cn2 abLM_4_221 (ab_cn2 abLM_4_225 (ab_cn2 abLM_4_228 (ab_cn2 abLM_4_231 (ab_cn2 abLM_4_235 (ab_cn2 abLM_4_238 (ab_cn2 abLM_4_241 (ab_cn2 abLM_4_245 (ab_cn2 abLM_4_266 (ab_cn2 abLM_4_272 (ab_cn2 abLM_4_275 (ab_cn2 abLM_4_279 (ab_cn2 abLM_4_282 (ab_cn2 abLM_4_285 (ab_cn2 abLM_4_288 (ab_cn2 abLM_4_291 (ab_cn2 abLM_4_294 (ab_cn2 abLM_4_299 (ab_cn2 abLM_4_302 (ab_cn2 abLM_4_305 (ab_cn2 abLM_4_308 (ab_cn2 abLM_4_312 (ab_cn2 abLM_4_316 (ab_cn2 abLM_4_318 (ab_cn2 abLM_4_328 ab_nl)))))))))))))))))))))))))))))))))))))))))))))))))
theorem abLM_5_28 : Cond.methodLink "TimberHouse$Router" 28 ⟨"TimberHouse$Text", "<init>", "(I)V"⟩ ∈ abTW := ab_in3 19 rfl rfl
theorem abLM_5_53 : Cond.methodLink "TimberHouse$Router" 53 ⟨"TimberHouse$Router", "anew", "(I)V"⟩ ∈ abTW := ab_in3 20 rfl rfl
theorem abLM_5_70 : Cond.methodLink "TimberHouse$Router" 70 ⟨"TimberHouse$Text", "clear", "()V"⟩ ∈ abTW := ab_in3 26 rfl rfl
theorem abLM_5_80 : Cond.methodLink "TimberHouse$Router" 80 ⟨"TimberHouse$Router", "target", "(IIIII)I"⟩ ∈ abTW := ab_in9 228 rfl rfl
theorem abLM_5_84 : Cond.methodLink "TimberHouse$Router" 84 ⟨"TimberHouse$Router", "keep", "(IIIIZ)I"⟩ ∈ abTW := ab_in10 2 rfl rfl
theorem abLM_5_88 : Cond.methodLink "TimberHouse$Router" 88 ⟨"TimberHouse$Router", "tool", "(III)I"⟩ ∈ abTW := ab_in10 7 rfl rfl
theorem abLM_5_91 : Cond.methodLink "TimberHouse$Router" 91 ⟨"TimberHouse$Text", "add", "(I)Z"⟩ ∈ abTW := ab_in10 11 rfl rfl
theorem abLM_5_99 : Cond.methodLink "TimberHouse$Router" 99 ⟨"TimberHouse$Router", "read", "()I"⟩ ∈ abTW := ab_in10 12 rfl rfl
theorem abLM_5_103 : Cond.methodLink "TimberHouse$Router" 103 ⟨"TimberHouse$Router", "run", "()I"⟩ ∈ abTW := ab_in10 41 rfl rfl
theorem abLM_5_106 : Cond.methodLink "TimberHouse$Router" 106 ⟨"TimberHouse$Router", "about", "(I)I"⟩ ∈ abTW := ab_in10 88 rfl rfl
theorem abLM_5_109 : Cond.methodLink "TimberHouse$Router" 109 ⟨"TimberHouse$Router", "cell", "(III)I"⟩ ∈ abTW := ab_in10 92 rfl rfl
theorem abLM_5_112 : Cond.methodLink "TimberHouse$Router" 112 ⟨"TimberHouse$Router", "check", "(I)I"⟩ ∈ abTW := ab_in10 96 rfl rfl
theorem abLM_5_115 : Cond.methodLink "TimberHouse$Router" 115 ⟨"TimberHouse$Router", "reached", "(I)I"⟩ ∈ abTW := ab_in10 100 rfl rfl
theorem abLM_5_118 : Cond.methodLink "TimberHouse$Router" 118 ⟨"TimberHouse$Router", "pieces", "()I"⟩ ∈ abTW := ab_in10 108 rfl rfl
theorem abLM_5_121 : Cond.methodLink "TimberHouse$Router" 121 ⟨"TimberHouse$Router", "blank", "()I"⟩ ∈ abTW := ab_in10 124 rfl rfl
theorem abLM_5_126 : Cond.methodLink "TimberHouse$Router" 126 ⟨"TimberHouse$Router", "onGrid", "(II)Z"⟩ ∈ abTW := ab_in9 232 rfl rfl
theorem abLM_5_141 : Cond.methodLink "TimberHouse$Router" 141 ⟨"TimberHouse$Router", "fillBox", "([IIIIII)V"⟩ ∈ abTW := ab_in9 239 rfl rfl
theorem abLM_5_148 : Cond.methodLink "TimberHouse$Router" 148 ⟨"TimberHouse$Text", "behindSpaces", "(I)I"⟩ ∈ abTW := ab_in10 17 rfl rfl
theorem abLM_5_151 : Cond.methodLink "TimberHouse$Router" 151 ⟨"TimberHouse$Router", "statement", "(II)I"⟩ ∈ abTW := ab_in10 21 rfl rfl
theorem abLM_5_161 : Cond.methodLink "TimberHouse$Router" 161 ⟨"TimberHouse$Text", "at", "(I)I"⟩ ∈ abTW := ab_in10 25 rfl rfl
theorem abLM_5_192 : Cond.methodLink "TimberHouse$Router" 192 ⟨"java/lang/Math", "max", "(II)I"⟩ ∈ abTW := ab_in10 55 rfl rfl
theorem abLM_5_211 : Cond.methodLink "TimberHouse$Router" 211 ⟨"TimberHouse$Router", "highest", "([IIII)I"⟩ ∈ abTW := ab_in10 64 rfl rfl
theorem abLM_5_215 : Cond.methodLink "TimberHouse$Router" 215 ⟨"TimberHouse$Router", "low", "(II)I"⟩ ∈ abTW := ab_in10 68 rfl rfl
theorem abLM_5_218 : Cond.methodLink "TimberHouse$Router" 218 ⟨"TimberHouse$Router", "high", "(II)I"⟩ ∈ abTW := ab_in10 72 rfl rfl
theorem abLM_5_221 : Cond.methodLink "TimberHouse$Router" 221 ⟨"TimberHouse$Router", "inDisc", "(III)Z"⟩ ∈ abTW := ab_in10 77 rfl rfl
theorem abLM_5_224 : Cond.methodLink "TimberHouse$Router" 224 ⟨"java/lang/Math", "min", "(II)I"⟩ ∈ abTW := ab_in10 76 rfl rfl
theorem abLM_5_230 : Cond.methodLink "TimberHouse$Router" 230 ⟨"TimberHouse$Router", "isLoose", "(II)Z"⟩ ∈ abTW := ab_in10 112 rfl rfl
theorem abLM_5_233 : Cond.methodLink "TimberHouse$Router" 233 ⟨"TimberHouse$Router", "markPiece", "(II)V"⟩ ∈ abTW := ab_in10 116 rfl rfl
theorem abLM_5_237 : Cond.methodLink "TimberHouse$Router" 237 ⟨"TimberHouse$Router", "mark", "(III)I"⟩ ∈ abTW := ab_in10 120 rfl rfl
theorem abLM_a5 : ∀ q ∈ (abLM_l[5]?.getD []), abLM_P 5 q := ab_cn2 abLM_5_28 (ab_cn2 abLM_5_53 (ab_cn2 abLM_5_70 (ab_cn2 abLM_5_80 (ab_cn2 abLM_5_84 (ab_cn2 abLM_5_88 (ab_cn2 abLM_5_91 (ab_cn2 abLM_5_99 (ab_cn2 abLM_5_103 (ab_cn2 abLM_5_106 (ab_cn2 abLM_5_109 (ab_cn2 abLM_5_112 (ab_cn2 abLM_5_115 (ab_cn2 abLM_5_118 (ab_cn2 abLM_5_121 (ab_cn2 abLM_5_126 (ab_cn2 abLM_5_141 (ab_cn2 abLM_5_148 (ab_cn2 abLM_5_151 (ab_cn2 abLM_5_161 (ab_cn2 abLM_5_192 (ab_cn2 abLM_5_211 (ab_cn2 abLM_5_215 (ab_cn2 abLM_5_218 (ab_cn2 abLM_5_221 (ab_cn2 abLM_5_224 (ab_cn2 abLM_5_230 (ab_cn2 abLM_5_233 (ab_cn2 abLM_5_237 ab_nl))))))))))))))))))))))))))))
theorem abLM_6_69 : Cond.methodLink "TimberHouse$Saw" 69 ⟨"TimberHouse$Saw", "cell", "(IIIZ)I"⟩ ∈ abTW := ab_in5 220 rfl rfl
theorem abLM_6_73 : Cond.methodLink "TimberHouse$Saw" 73 ⟨"TimberHouse$Saw", "span", "(IIII)I"⟩ ∈ abTW := ab_in6 54 rfl rfl
theorem abLM_6_77 : Cond.methodLink "TimberHouse$Saw" 77 ⟨"TimberHouse$Saw", "knot", "(III)I"⟩ ∈ abTW := ab_in6 76 rfl rfl
theorem abLM_6_80 : Cond.methodLink "TimberHouse$Saw" 80 ⟨"TimberHouse$Saw", "size", "(IIII)I"⟩ ∈ abTW := ab_in6 80 rfl rfl
theorem abLM_6_83 : Cond.methodLink "TimberHouse$Saw" 83 ⟨"TimberHouse$Saw", "run", "()I"⟩ ∈ abTW := ab_in6 103 rfl rfl
theorem abLM_6_87 : Cond.methodLink "TimberHouse$Saw" 87 ⟨"TimberHouse$Saw", "about", "(II)J"⟩ ∈ abTW := ab_in6 150 rfl rfl
theorem abLM_6_91 : Cond.methodLink "TimberHouse$Saw" 91 ⟨"TimberHouse$Saw", "all", "(I)J"⟩ ∈ abTW := ab_in6 158 rfl rfl
theorem abLM_6_95 : Cond.methodLink "TimberHouse$Saw" 95 ⟨"TimberHouse$Saw", "worth", "(I)J"⟩ ∈ abTW := ab_in6 163 rfl rfl
theorem abLM_6_98 : Cond.methodLink "TimberHouse$Saw" 98 ⟨"TimberHouse$Saw", "yields", "(I)J"⟩ ∈ abTW := ab_in6 168 rfl rfl
theorem abLM_6_101 : Cond.methodLink "TimberHouse$Saw" 101 ⟨"TimberHouse$Saw", "may", "(IIII)I"⟩ ∈ abTW := ab_in6 182 rfl rfl
theorem abLM_6_104 : Cond.methodLink "TimberHouse$Saw" 104 ⟨"TimberHouse$Saw", "apart", "(II)I"⟩ ∈ abTW := ab_in6 186 rfl rfl
theorem abLM_6_108 : Cond.methodLink "TimberHouse$Saw" 108 ⟨"TimberHouse$Saw", "wood", "()I"⟩ ∈ abTW := ab_in6 172 rfl rfl
theorem abLM_6_117 : Cond.methodLink "TimberHouse$Saw" 117 ⟨"TimberHouse$Saw", "onGrid", "(II)Z"⟩ ∈ abTW := ab_in5 224 rfl rfl
theorem abLM_6_132 : Cond.methodLink "TimberHouse$Saw" 132 ⟨"TimberHouse$Saw", "solve", "(I)J"⟩ ∈ abTW := ab_in6 107 rfl rfl
theorem abLM_6_138 : Cond.methodLink "TimberHouse$Saw" 138 ⟨"TimberHouse$Saw", "lay", "()V"⟩ ∈ abTW := ab_in6 142 rfl rfl
theorem abLM_6_182 : Cond.methodLink "TimberHouse$Saw" 182 ⟨"TimberHouse$Saw", "isWood", "(II)Z"⟩ ∈ abTW := ab_in6 118 rfl rfl
theorem abLM_6_194 : Cond.methodLink "TimberHouse$Saw" 194 ⟨"TimberHouse$Saw", "sumUp", "(I)V"⟩ ∈ abTW := ab_in6 111 rfl rfl
theorem abLM_6_198 : Cond.methodLink "TimberHouse$Saw" 198 ⟨"TimberHouse$Saw", "hasThickness", "(I)Z"⟩ ∈ abTW := ab_in6 125 rfl rfl
theorem abLM_6_204 : Cond.methodLink "TimberHouse$Saw" 204 ⟨"java/lang/Math", "min", "(II)I"⟩ ∈ abTW := ab_in6 141 rfl rfl
theorem abLM_6_214 : Cond.methodLink "TimberHouse$Saw" 214 ⟨"TimberHouse$Saw", "before", "([II)I"⟩ ∈ abTW := ab_in6 115 rfl rfl
theorem abLM_a6 : ∀ q ∈ (abLM_l[6]?.getD []), abLM_P 6 q := ab_cn2 abLM_6_69 (ab_cn2 abLM_6_73 (ab_cn2 abLM_6_77 (ab_cn2 abLM_6_80 (ab_cn2 abLM_6_83 (ab_cn2 abLM_6_87 (ab_cn2 abLM_6_91 (ab_cn2 abLM_6_95 (ab_cn2 abLM_6_98 (ab_cn2 abLM_6_101 (ab_cn2 abLM_6_104 (ab_cn2 abLM_6_108 (ab_cn2 abLM_6_117 (ab_cn2 abLM_6_132 (ab_cn2 abLM_6_138 (ab_cn2 abLM_6_182 (ab_cn2 abLM_6_194 (ab_cn2 abLM_6_198 (ab_cn2 abLM_6_204 (ab_cn2 abLM_6_214 ab_nl)))))))))))))))))))
theorem abLM_7_47 : Cond.methodLink "TimberHouse$Sheets" 47 ⟨"TimberHouse$Sheets", "anew", "(III)V"⟩ ∈ abTW := ab_in2 188 rfl rfl
theorem abLM_7_81 : Cond.methodLink "TimberHouse$Sheets" 81 ⟨"TimberHouse$Sheets", "sheet", "(IIII)I"⟩ ∈ abTW := ab_in9 119 rfl rfl
theorem abLM_7_85 : Cond.methodLink "TimberHouse$Sheets" 85 ⟨"TimberHouse$Sheets", "part", "(IIIZ)I"⟩ ∈ abTW := ab_in9 128 rfl rfl
theorem abLM_7_89 : Cond.methodLink "TimberHouse$Sheets" 89 ⟨"TimberHouse$Sheets", "count", "(II)I"⟩ ∈ abTW := ab_in9 133 rfl rfl
theorem abLM_7_93 : Cond.methodLink "TimberHouse$Sheets" 93 ⟨"TimberHouse$Sheets", "worth", "(IIII)I"⟩ ∈ abTW := ab_in9 138 rfl rfl
theorem abLM_7_96 : Cond.methodLink "TimberHouse$Sheets" 96 ⟨"TimberHouse$Sheets", "run", "()I"⟩ ∈ abTW := ab_in9 163 rfl rfl
theorem abLM_7_100 : Cond.methodLink "TimberHouse$Sheets" 100 ⟨"TimberHouse$Sheets", "cut", "(II)I"⟩ ∈ abTW := ab_in9 196 rfl rfl
theorem abLM_7_103 : Cond.methodLink "TimberHouse$Sheets" 103 ⟨"TimberHouse$Sheets", "takenAt", "(III)I"⟩ ∈ abTW := ab_in9 200 rfl rfl
theorem abLM_7_106 : Cond.methodLink "TimberHouse$Sheets" 106 ⟨"TimberHouse$Sheets", "rest", "(III)I"⟩ ∈ abTW := ab_in9 205 rfl rfl
theorem abLM_7_109 : Cond.methodLink "TimberHouse$Sheets" 109 ⟨"TimberHouse$Sheets", "left", "(I)I"⟩ ∈ abTW := ab_in9 209 rfl rfl
theorem abLM_7_112 : Cond.methodLink "TimberHouse$Sheets" 112 ⟨"TimberHouse$Sheets", "all", "(I)J"⟩ ∈ abTW := ab_in9 213 rfl rfl
theorem abLM_7_116 : Cond.methodLink "TimberHouse$Sheets" 116 ⟨"TimberHouse$Sheets", "bound", "()J"⟩ ∈ abTW := ab_in9 218 rfl rfl
theorem abLM_7_126 : Cond.methodLink "TimberHouse$Sheets" 126 ⟨"TimberHouse$Sheets", "isSide", "(I)Z"⟩ ∈ abTW := ab_in9 123 rfl rfl
theorem abLM_7_144 : Cond.methodLink "TimberHouse$Sheets" 144 ⟨"TimberHouse$Sheets", "wanted", "([I)I"⟩ ∈ abTW := ab_in9 142 rfl rfl
theorem abLM_7_148 : Cond.methodLink "TimberHouse$Sheets" 148 ⟨"TimberHouse$Sheets", "solve", "(I)V"⟩ ∈ abTW := ab_in9 146 rfl rfl
theorem abLM_7_152 : Cond.methodLink "TimberHouse$Sheets" 152 ⟨"TimberHouse$Sheets", "index", "(IIII)I"⟩ ∈ abTW := ab_in9 154 rfl rfl
theorem abLM_7_195 : Cond.methodLink "TimberHouse$Sheets" 195 ⟨"TimberHouse$Sheets", "solvePiece", "(IIII)V"⟩ ∈ abTW := ab_in9 150 rfl rfl
theorem abLM_7_199 : Cond.methodLink "TimberHouse$Sheets" 199 ⟨"TimberHouse$Sheets", "partOf", "(II)I"⟩ ∈ abTW := ab_in9 157 rfl rfl
theorem abLM_a7 : ∀ q ∈ (abLM_l[7]?.getD []), abLM_P 7 q := ab_cn2 abLM_7_47 (ab_cn2 abLM_7_81 (ab_cn2 abLM_7_85 (ab_cn2 abLM_7_89 (ab_cn2 abLM_7_93 (ab_cn2 abLM_7_96 (ab_cn2 abLM_7_100 (ab_cn2 abLM_7_103 (ab_cn2 abLM_7_106 (ab_cn2 abLM_7_109 (ab_cn2 abLM_7_112 (ab_cn2 abLM_7_116 (ab_cn2 abLM_7_126 (ab_cn2 abLM_7_144 (ab_cn2 abLM_7_148 (ab_cn2 abLM_7_152 (ab_cn2 abLM_7_195 (ab_cn2 abLM_7_199 ab_nl)))))))))))))))))
theorem abLM_8_35 : Cond.methodLink "TimberHouse$Shop" 35 ⟨"TimberHouse$Shop", "anew", "()V"⟩ ∈ abTW := ab_in3 229 rfl rfl
theorem abLM_8_57 : Cond.methodLink "TimberHouse$Shop" 57 ⟨"TimberHouse$Shop", "tell", "(IIIIII)I"⟩ ∈ abTW := ab_in11 193 rfl rfl
theorem abLM_8_61 : Cond.methodLink "TimberHouse$Shop" 61 ⟨"TimberHouse$Shop", "set", "(I)I"⟩ ∈ abTW := ab_in11 211 rfl rfl
theorem abLM_8_65 : Cond.methodLink "TimberHouse$Shop" 65 ⟨"TimberHouse$Shop", "join", "(II)I"⟩ ∈ abTW := ab_in11 223 rfl rfl
theorem abLM_8_69 : Cond.methodLink "TimberHouse$Shop" 69 ⟨"TimberHouse$Shop", "equal", "(II)I"⟩ ∈ abTW := ab_in11 235 rfl rfl
theorem abLM_8_72 : Cond.methodLink "TimberHouse$Shop" 72 ⟨"TimberHouse$Shop", "at", "(IIII)J"⟩ ∈ abTW := ab_in11 239 rfl rfl
theorem abLM_8_76 : Cond.methodLink "TimberHouse$Shop" 76 ⟨"TimberHouse$Shop", "conflict", "(II)I"⟩ ∈ abTW := ab_in12 31 rfl rfl
theorem abLM_8_79 : Cond.methodLink "TimberHouse$Shop" 79 ⟨"TimberHouse$Shop", "mark", "(I)I"⟩ ∈ abTW := ab_in12 40 rfl rfl
theorem abLM_8_82 : Cond.methodLink "TimberHouse$Shop" 82 ⟨"TimberHouse$Shop", "since", "(IIII)I"⟩ ∈ abTW := ab_in12 44 rfl rfl
theorem abLM_8_86 : Cond.methodLink "TimberHouse$Shop" 86 ⟨"TimberHouse$Shop", "batch", "(IZ)I"⟩ ∈ abTW := ab_in12 48 rfl rfl
theorem abLM_8_90 : Cond.methodLink "TimberHouse$Shop" 90 ⟨"TimberHouse$Shop", "right", "(IIZ)I"⟩ ∈ abTW := ab_in12 52 rfl rfl
theorem abLM_8_94 : Cond.methodLink "TimberHouse$Shop" 94 ⟨"TimberHouse$Shop", "seen", "(IIII)J"⟩ ∈ abTW := ab_in12 60 rfl rfl
theorem abLM_8_97 : Cond.methodLink "TimberHouse$Shop" 97 ⟨"TimberHouse$Shop", "entry", "(I)I"⟩ ∈ abTW := ab_in12 64 rfl rfl
theorem abLM_8_100 : Cond.methodLink "TimberHouse$Shop" 100 ⟨"TimberHouse$Shop", "row", "(III)I"⟩ ∈ abTW := ab_in12 70 rfl rfl
theorem abLM_8_104 : Cond.methodLink "TimberHouse$Shop" 104 ⟨"TimberHouse$Shop", "close", "(I)I"⟩ ∈ abTW := ab_in12 77 rfl rfl
theorem abLM_8_107 : Cond.methodLink "TimberHouse$Shop" 107 ⟨"TimberHouse$Shop", "balance", "(II)J"⟩ ∈ abTW := ab_in12 82 rfl rfl
theorem abLM_8_111 : Cond.methodLink "TimberHouse$Shop" 111 ⟨"TimberHouse$Shop", "closeMonth", "(I)I"⟩ ∈ abTW := ab_in12 86 rfl rfl
theorem abLM_8_114 : Cond.methodLink "TimberHouse$Shop" 114 ⟨"TimberHouse$Shop", "reverse", "(II)I"⟩ ∈ abTW := ab_in12 90 rfl rfl
theorem abLM_8_119 : Cond.methodLink "TimberHouse$Shop" 119 ⟨"TimberHouse$Shop", "isTeller", "(I)Z"⟩ ∈ abTW := ab_in11 197 rfl rfl
theorem abLM_8_123 : Cond.methodLink "TimberHouse$Shop" 123 ⟨"TimberHouse$Shop", "isThing", "(I)Z"⟩ ∈ abTW := ab_in11 200 rfl rfl
theorem abLM_8_130 : Cond.methodLink "TimberHouse$Shop" 130 ⟨"TimberHouse$Shop", "isKind", "(I)Z"⟩ ∈ abTW := ab_in11 204 rfl rfl
theorem abLM_8_136 : Cond.methodLink "TimberHouse$Shop" 136 ⟨"TimberHouse$Shop", "hasTold", "(II)Z"⟩ ∈ abTW := ab_in11 208 rfl rfl
theorem abLM_8_140 : Cond.methodLink "TimberHouse$Shop" 140 ⟨"TimberHouse$Shop", "addTelling", "(IIIIII)Z"⟩ ∈ abTW := ab_in11 209 rfl rfl
theorem abLM_8_154 : Cond.methodLink "TimberHouse$Shop" 154 ⟨"TimberHouse$Shop", "isSet", "(I)Z"⟩ ∈ abTW := ab_in11 227 rfl rfl
theorem abLM_8_171 : Cond.methodLink "TimberHouse$Shop" 171 ⟨"TimberHouse$Shop", "hasRight", "(II)Z"⟩ ∈ abTW := ab_in12 56 rfl rfl
theorem abLM_8_195 : Cond.methodLink "TimberHouse$Shop" 195 ⟨"TimberHouse$Shop", "entryFault", "(I)I"⟩ ∈ abTW := ab_in5 160 rfl rfl
theorem abLM_8_202 : Cond.methodLink "TimberHouse$Shop" 202 ⟨"TimberHouse$Shop", "addEntry", "(I)I"⟩ ∈ abTW := ab_in12 69 rfl rfl
theorem abLM_8_205 : Cond.methodLink "TimberHouse$Shop" 205 ⟨"TimberHouse$Shop", "isEntry", "(I)Z"⟩ ∈ abTW := ab_in5 169 rfl rfl
theorem abLM_a8 : ∀ q ∈ (abLM_l[8]?.getD []), abLM_P 8 q := ab_cn2 abLM_8_35 (ab_cn2 abLM_8_57 (ab_cn2 abLM_8_61 (ab_cn2 abLM_8_65 (ab_cn2 abLM_8_69 (ab_cn2 abLM_8_72 (ab_cn2 abLM_8_76 (ab_cn2 abLM_8_79 (ab_cn2 abLM_8_82 (ab_cn2 abLM_8_86 (ab_cn2 abLM_8_90 (ab_cn2 abLM_8_94 (ab_cn2 abLM_8_97 (ab_cn2 abLM_8_100 (ab_cn2 abLM_8_104 (ab_cn2 abLM_8_107 (ab_cn2 abLM_8_111 (ab_cn2 abLM_8_114 (ab_cn2 abLM_8_119 (ab_cn2 abLM_8_123 (ab_cn2 abLM_8_130 (ab_cn2 abLM_8_136 (ab_cn2 abLM_8_140 (ab_cn2 abLM_8_154 (ab_cn2 abLM_8_171 (ab_cn2 abLM_8_195 (ab_cn2 abLM_8_202 (ab_cn2 abLM_8_205 ab_nl)))))))))))))))))))))))))))
theorem abLM_9_15 : Cond.methodLink "TimberHouse$Text" 15 ⟨"java/lang/Math", "min", "(II)I"⟩ ∈ abTW := ab_in2 126 rfl rfl
theorem abLM_a9 : ∀ q ∈ (abLM_l[9]?.getD []), abLM_P 9 q := ab_cn2 abLM_9_15 ab_nl
theorem abLM_10_49 : Cond.methodLink "TimberHouse$Turned" 49 ⟨"TimberHouse$Turned", "anew", "()V"⟩ ∈ abTW := ab_in2 58 rfl rfl
theorem abLM_10_71 : Cond.methodLink "TimberHouse$Turned" 71 ⟨"TimberHouse$Turned", "start", "(I)I"⟩ ∈ abTW := ab_in8 60 rfl rfl
theorem abLM_10_75 : Cond.methodLink "TimberHouse$Turned" 75 ⟨"TimberHouse$Turned", "line", "(II)I"⟩ ∈ abTW := ab_in8 65 rfl rfl
theorem abLM_10_79 : Cond.methodLink "TimberHouse$Turned" 79 ⟨"TimberHouse$Turned", "arc", "(IIIIZ)I"⟩ ∈ abTW := ab_in8 75 rfl rfl
theorem abLM_10_83 : Cond.methodLink "TimberHouse$Turned" 83 ⟨"TimberHouse$Turned", "turn", "()I"⟩ ∈ abTW := ab_in8 83 rfl rfl
theorem abLM_10_87 : Cond.methodLink "TimberHouse$Turned" 87 ⟨"TimberHouse$Turned", "radius", "(II)I"⟩ ∈ abTW := ab_in8 88 rfl rfl
theorem abLM_10_90 : Cond.methodLink "TimberHouse$Turned" 90 ⟨"TimberHouse$Turned", "about", "(II)I"⟩ ∈ abTW := ab_in8 93 rfl rfl
theorem abLM_10_93 : Cond.methodLink "TimberHouse$Turned" 93 ⟨"TimberHouse$Turned", "tool", "(I)I"⟩ ∈ abTW := ab_in8 97 rfl rfl
theorem abLM_10_96 : Cond.methodLink "TimberHouse$Turned" 96 ⟨"TimberHouse$Turned", "reachedAt", "(III)I"⟩ ∈ abTW := ab_in8 101 rfl rfl
theorem abLM_10_100 : Cond.methodLink "TimberHouse$Turned" 100 ⟨"TimberHouse$Turned", "left", "(II)I"⟩ ∈ abTW := ab_in8 105 rfl rfl
theorem abLM_10_103 : Cond.methodLink "TimberHouse$Turned" 103 ⟨"TimberHouse$Turned", "passesOf", "(IIII)I"⟩ ∈ abTW := ab_in8 110 rfl rfl
theorem abLM_10_107 : Cond.methodLink "TimberHouse$Turned" 107 ⟨"TimberHouse$Turned", "cut", "(IIIII)I"⟩ ∈ abTW := ab_in8 115 rfl rfl
theorem abLM_10_111 : Cond.methodLink "TimberHouse$Turned" 111 ⟨"TimberHouse$Turned", "steady", "(III)I"⟩ ∈ abTW := ab_in8 119 rfl rfl
theorem abLM_10_114 : Cond.methodLink "TimberHouse$Turned" 114 ⟨"TimberHouse$Turned", "volume", "(IZ)J"⟩ ∈ abTW := ab_in8 127 rfl rfl
theorem abLM_10_118 : Cond.methodLink "TimberHouse$Turned" 118 ⟨"TimberHouse$Turned", "hollow", "(III)I"⟩ ∈ abTW := ab_in8 134 rfl rfl
theorem abLM_10_121 : Cond.methodLink "TimberHouse$Turned" 121 ⟨"TimberHouse$Turned", "copy", "(II)I"⟩ ∈ abTW := ab_in8 138 rfl rfl
theorem abLM_10_124 : Cond.methodLink "TimberHouse$Turned" 124 ⟨"TimberHouse$Turned", "ring", "()I"⟩ ∈ abTW := ab_in8 145 rfl rfl
theorem abLM_10_127 : Cond.methodLink "TimberHouse$Turned" 127 ⟨"TimberHouse$Turned", "wedge", "(III)I"⟩ ∈ abTW := ab_in8 149 rfl rfl
theorem abLM_10_130 : Cond.methodLink "TimberHouse$Turned" 130 ⟨"TimberHouse$Turned", "mitre", "(III)J"⟩ ∈ abTW := ab_in8 158 rfl rfl
theorem abLM_10_134 : Cond.methodLink "TimberHouse$Turned" 134 ⟨"TimberHouse$Turned", "gap", "(II)J"⟩ ∈ abTW := ab_in8 164 rfl rfl
theorem abLM_10_138 : Cond.methodLink "TimberHouse$Turned" 138 ⟨"TimberHouse$Turned", "closes", "(I)I"⟩ ∈ abTW := ab_in8 173 rfl rfl
theorem abLM_10_141 : Cond.methodLink "TimberHouse$Turned" 141 ⟨"TimberHouse$Turned", "flute", "(III)J"⟩ ∈ abTW := ab_in8 177 rfl rfl
theorem abLM_10_144 : Cond.methodLink "TimberHouse$Turned" 144 ⟨"TimberHouse$Turned", "thread", "(II)I"⟩ ∈ abTW := ab_in8 182 rfl rfl
theorem abLM_10_147 : Cond.methodLink "TimberHouse$Turned" 147 ⟨"TimberHouse$Turned", "threadAt", "(II)J"⟩ ∈ abTW := ab_in8 186 rfl rfl
theorem abLM_10_150 : Cond.methodLink "TimberHouse$Turned" 150 ⟨"TimberHouse$Turned", "row", "(II)I"⟩ ∈ abTW := ab_in8 191 rfl rfl
theorem abLM_10_153 : Cond.methodLink "TimberHouse$Turned" 153 ⟨"TimberHouse$Turned", "speed", "(II)I"⟩ ∈ abTW := ab_in8 195 rfl rfl
theorem abLM_10_166 : Cond.methodLink "TimberHouse$Turned" 166 ⟨"java/lang/Math", "max", "(II)I"⟩ ∈ abTW := ab_in4 210 rfl rfl
theorem abLM_10_171 : Cond.methodLink "TimberHouse$Turned" 171 ⟨"TimberHouse$Turned", "mayGoTo", "(II)Z"⟩ ∈ abTW := ab_in8 69 rfl rfl
theorem abLM_10_197 : Cond.methodLink "TimberHouse$Turned" 197 ⟨"TimberHouse$Turned", "isPiece", "(I)Z"⟩ ∈ abTW := ab_in4 190 rfl rfl
theorem abLM_10_207 : Cond.methodLink "TimberHouse$Turned" 207 ⟨"TimberHouse$Turned", "has", "(II)Z"⟩ ∈ abTW := ab_in4 199 rfl rfl
theorem abLM_10_239 : Cond.methodLink "TimberHouse$Turned" 239 ⟨"TimberHouse$Turned", "isRing", "(I)Z"⟩ ∈ abTW := ab_in8 153 rfl rfl
theorem abLM_a10 : ∀ q ∈ (abLM_l[10]?.getD []), abLM_P 10 q := ab_cn2 abLM_10_49 (ab_cn2 abLM_10_71 (ab_cn2 abLM_10_75 (ab_cn2 abLM_10_79 (ab_cn2 abLM_10_83 (ab_cn2 abLM_10_87 (ab_cn2 abLM_10_90 (ab_cn2 abLM_10_93 (ab_cn2 abLM_10_96 (ab_cn2 abLM_10_100 (ab_cn2 abLM_10_103 (ab_cn2 abLM_10_107 (ab_cn2 abLM_10_111 (ab_cn2 abLM_10_114 (ab_cn2 abLM_10_118 (ab_cn2 abLM_10_121 (ab_cn2 abLM_10_124 (ab_cn2 abLM_10_127 (ab_cn2 abLM_10_130 (ab_cn2 abLM_10_134 (ab_cn2 abLM_10_138 (ab_cn2 abLM_10_141 (ab_cn2 abLM_10_144 (ab_cn2 abLM_10_147 (ab_cn2 abLM_10_150 (ab_cn2 abLM_10_153 (ab_cn2 abLM_10_166 (ab_cn2 abLM_10_171 (ab_cn2 abLM_10_197 (ab_cn2 abLM_10_207 (ab_cn2 abLM_10_239 ab_nl))))))))))))))))))))))))))))))
theorem abLM_11_9 : Cond.methodLink "TimberHouse" 9 ⟨"TimberHouse$Saw", "<init>", "()V"⟩ ∈ abTW := ab_in1 47 rfl rfl
theorem abLM_11_18 : Cond.methodLink "TimberHouse" 18 ⟨"TimberHouse$Rips", "<init>", "()V"⟩ ∈ abTW := ab_in1 109 rfl rfl
theorem abLM_11_25 : Cond.methodLink "TimberHouse" 25 ⟨"TimberHouse$Fingers", "<init>", "()V"⟩ ∈ abTW := ab_in1 212 rfl rfl
theorem abLM_11_32 : Cond.methodLink "TimberHouse" 32 ⟨"TimberHouse$Turned", "<init>", "()V"⟩ ∈ abTW := ab_in2 52 rfl rfl
theorem abLM_11_39 : Cond.methodLink "TimberHouse" 39 ⟨"TimberHouse$Nails", "<init>", "()V"⟩ ∈ abTW := ab_in2 116 rfl rfl
theorem abLM_11_46 : Cond.methodLink "TimberHouse" 46 ⟨"TimberHouse$Sheets", "<init>", "()V"⟩ ∈ abTW := ab_in2 183 rfl rfl
theorem abLM_11_53 : Cond.methodLink "TimberHouse" 53 ⟨"TimberHouse$Router", "<init>", "()V"⟩ ∈ abTW := ab_in3 13 rfl rfl
theorem abLM_11_60 : Cond.methodLink "TimberHouse" 60 ⟨"TimberHouse$Plans", "<init>", "()V"⟩ ∈ abTW := ab_in3 72 rfl rfl
theorem abLM_11_67 : Cond.methodLink "TimberHouse" 67 ⟨"TimberHouse$Prices", "<init>", "()V"⟩ ∈ abTW := ab_in3 141 rfl rfl
theorem abLM_11_74 : Cond.methodLink "TimberHouse" 74 ⟨"TimberHouse$Shop", "<init>", "()V"⟩ ∈ abTW := ab_in3 224 rfl rfl
theorem abLM_11_85 : Cond.methodLink "TimberHouse" 85 ⟨"TimberHouse", "makeAnew", "(IIII)I"⟩ ∈ abTW := ab_in4 94 rfl rfl
theorem abLM_11_89 : Cond.methodLink "TimberHouse" 89 ⟨"TimberHouse$Saw", "call", "(IIIII)J"⟩ ∈ abTW := ab_in5 216 rfl rfl
theorem abLM_11_93 : Cond.methodLink "TimberHouse" 93 ⟨"TimberHouse$Rips", "call", "(IIIIIII)J"⟩ ∈ abTW := ab_in6 195 rfl rfl
theorem abLM_11_96 : Cond.methodLink "TimberHouse" 96 ⟨"TimberHouse$Fingers", "call", "(III)J"⟩ ∈ abTW := ab_in7 172 rfl rfl
theorem abLM_11_99 : Cond.methodLink "TimberHouse" 99 ⟨"TimberHouse$Turned", "call", "(IIIIII)J"⟩ ∈ abTW := ab_in8 56 rfl rfl
theorem abLM_11_102 : Cond.methodLink "TimberHouse" 102 ⟨"TimberHouse$Nails", "call", "(IIIIIII)J"⟩ ∈ abTW := ab_in8 200 rfl rfl
theorem abLM_11_103 : Cond.methodLink "TimberHouse" 103 ⟨"TimberHouse$Sheets", "call", "(IIIII)J"⟩ ∈ abTW := ab_in9 115 rfl rfl
theorem abLM_11_104 : Cond.methodLink "TimberHouse" 104 ⟨"TimberHouse$Router", "call", "(IIIIII)J"⟩ ∈ abTW := ab_in9 224 rfl rfl
theorem abLM_11_105 : Cond.methodLink "TimberHouse" 105 ⟨"TimberHouse$Plans", "call", "(IIIII)J"⟩ ∈ abTW := ab_in10 129 rfl rfl
theorem abLM_11_106 : Cond.methodLink "TimberHouse" 106 ⟨"TimberHouse$Prices", "call", "(IIII)J"⟩ ∈ abTW := ab_in11 55 rfl rfl
theorem abLM_11_109 : Cond.methodLink "TimberHouse" 109 ⟨"TimberHouse$Shop", "call", "(IIIIIII)J"⟩ ∈ abTW := ab_in11 189 rfl rfl
theorem abLM_11_110 : Cond.methodLink "TimberHouse" 110 ⟨"TimberHouse", "within", "(III)Z"⟩ ∈ abTW := ab_in4 80 rfl rfl
theorem abLM_11_114 : Cond.methodLink "TimberHouse" 114 ⟨"TimberHouse$Saw", "has", "(I)Z"⟩ ∈ abTW := ab_in4 83 rfl rfl
theorem abLM_11_122 : Cond.methodLink "TimberHouse" 122 ⟨"TimberHouse$Rips", "planned", "()Z"⟩ ∈ abTW := ab_in4 117 rfl rfl
theorem abLM_11_136 : Cond.methodLink "TimberHouse" 136 ⟨"TimberHouse$Sheets", "wasRun", "()Z"⟩ ∈ abTW := ab_in4 146 rfl rfl
theorem abLM_11_152 : Cond.methodLink "TimberHouse" 152 ⟨"TimberHouse$Turned", "has", "(II)Z"⟩ ∈ abTW := ab_in4 186 rfl rfl
theorem abLM_11_179 : Cond.methodLink "TimberHouse" 179 ⟨"TimberHouse$Sheets", "allCents", "()J"⟩ ∈ abTW := ab_in5 76 rfl rfl
theorem abLM_11_183 : Cond.methodLink "TimberHouse" 183 ⟨"TimberHouse", "tellFact", "(IZJI)I"⟩ ∈ abTW := ab_in5 80 rfl rfl
theorem abLM_11_187 : Cond.methodLink "TimberHouse" 187 ⟨"TimberHouse$Plans", "planned", "()Z"⟩ ∈ abTW := ab_in5 94 rfl rfl
theorem abLM_11_188 : Cond.methodLink "TimberHouse" 188 ⟨"TimberHouse$Plans", "cost", "()I"⟩ ∈ abTW := ab_in5 98 rfl rfl
theorem abLM_11_191 : Cond.methodLink "TimberHouse" 191 ⟨"TimberHouse$Fingers", "wasRun", "()Z"⟩ ∈ abTW := ab_in5 102 rfl rfl
theorem abLM_11_192 : Cond.methodLink "TimberHouse" 192 ⟨"TimberHouse$Fingers", "lineWorth", "()J"⟩ ∈ abTW := ab_in5 106 rfl rfl
theorem abLM_11_195 : Cond.methodLink "TimberHouse" 195 ⟨"TimberHouse$Rips", "trueWorth", "()J"⟩ ∈ abTW := ab_in5 110 rfl rfl
theorem abLM_11_198 : Cond.methodLink "TimberHouse" 198 ⟨"TimberHouse$Saw", "wasSawn", "()Z"⟩ ∈ abTW := ab_in5 118 rfl rfl
theorem abLM_11_201 : Cond.methodLink "TimberHouse" 201 ⟨"TimberHouse$Saw", "sawnWorth", "()J"⟩ ∈ abTW := ab_in5 122 rfl rfl
theorem abLM_11_204 : Cond.methodLink "TimberHouse" 204 ⟨"TimberHouse$Prices", "offerFault", "(II)I"⟩ ∈ abTW := ab_in5 142 rfl rfl
theorem abLM_11_240 : Cond.methodLink "TimberHouse" 240 ⟨"TimberHouse", "timesAnew", "()I"⟩ ∈ abTW := ab_in5 201 rfl rfl
theorem abLM_11_243 : Cond.methodLink "TimberHouse" 243 ⟨"TimberHouse$Saw", "anew", "(II)V"⟩ ∈ abTW := ab_in4 98 rfl rfl
theorem abLM_11_247 : Cond.methodLink "TimberHouse" 247 ⟨"TimberHouse$Rips", "anew", "(III)V"⟩ ∈ abTW := ab_in4 104 rfl rfl
theorem abLM_11_250 : Cond.methodLink "TimberHouse" 250 ⟨"TimberHouse$Fingers", "anew", "(II)V"⟩ ∈ abTW := ab_in4 105 rfl rfl
theorem abLM_11_251 : Cond.methodLink "TimberHouse" 251 ⟨"TimberHouse$Turned", "anew", "()V"⟩ ∈ abTW := ab_in4 106 rfl rfl
theorem abLM_11_253 : Cond.methodLink "TimberHouse" 253 ⟨"TimberHouse$Nails", "anew", "()V"⟩ ∈ abTW := ab_in4 107 rfl rfl
theorem abLM_11_254 : Cond.methodLink "TimberHouse" 254 ⟨"TimberHouse$Sheets", "anew", "(III)V"⟩ ∈ abTW := ab_in4 108 rfl rfl
theorem abLM_11_255 : Cond.methodLink "TimberHouse" 255 ⟨"TimberHouse$Router", "anew", "(I)V"⟩ ∈ abTW := ab_in4 109 rfl rfl
theorem abLM_11_258 : Cond.methodLink "TimberHouse" 258 ⟨"TimberHouse$Plans", "anew", "(I)V"⟩ ∈ abTW := ab_in4 110 rfl rfl
theorem abLM_11_259 : Cond.methodLink "TimberHouse" 259 ⟨"TimberHouse$Prices", "anew", "()V"⟩ ∈ abTW := ab_in4 111 rfl rfl
theorem abLM_11_260 : Cond.methodLink "TimberHouse" 260 ⟨"TimberHouse$Shop", "anew", "()V"⟩ ∈ abTW := ab_in4 112 rfl rfl
theorem abLM_11_278 : Cond.methodLink "TimberHouse" 278 ⟨"TimberHouse$Prices", "setFact", "(III)V"⟩ ∈ abTW := ab_in5 86 rfl rfl
theorem abLM_11_290 : Cond.methodLink "TimberHouse" 290 ⟨"TimberHouse", "needThing", "(Z)V"⟩ ∈ abTW := ab_in7 183 rfl rfl
theorem abLM_11_294 : Cond.methodLink "TimberHouse" 294 ⟨"TimberHouse", "needNumber", "(Z)V"⟩ ∈ abTW := ab_in7 184 rfl rfl
theorem abLM_11_297 : Cond.methodLink "TimberHouse" 297 ⟨"TimberHouse", "needState", "(Z)V"⟩ ∈ abTW := ab_in7 185 rfl rfl
theorem abLM_11_300 : Cond.methodLink "TimberHouse" 300 ⟨"java/lang/Math", "min", "(II)I"⟩ ∈ abTW := ab_in1 125 rfl rfl
theorem abLM_11_302 : Cond.methodLink "TimberHouse" 302 ⟨"java/lang/Math", "max", "(II)I"⟩ ∈ abTW := ab_in1 128 rfl rfl
theorem abLM_11_304 : Cond.methodLink "TimberHouse" 304 ⟨"java/lang/Math", "floorDiv", "(JJ)J"⟩ ∈ abTW := ab_in1 135 rfl rfl
theorem abLM_11_307 : Cond.methodLink "TimberHouse" 307 ⟨"TimberHouse", "divisor", "(JJ)J"⟩ ∈ abTW := ab_in6 179 rfl rfl
theorem abLM_a11 : ∀ q ∈ (abLM_l[11]?.getD []), abLM_P 11 q := ab_cn2 abLM_11_9 (ab_cn2 abLM_11_18 (ab_cn2 abLM_11_25 (ab_cn2 abLM_11_32 (ab_cn2 abLM_11_39 (ab_cn2 abLM_11_46 (ab_cn2 abLM_11_53 (ab_cn2 abLM_11_60 (ab_cn2 abLM_11_67 (ab_cn2 abLM_11_74 (ab_cn2 abLM_11_85 (ab_cn2 abLM_11_89 (ab_cn2 abLM_11_93 (ab_cn2 abLM_11_96 (ab_cn2 abLM_11_99 (ab_cn2 abLM_11_102 (ab_cn2 abLM_11_103 (ab_cn2 abLM_11_104 (ab_cn2 abLM_11_105 (ab_cn2 abLM_11_106 (ab_cn2 abLM_11_109 (ab_cn2 abLM_11_110 (ab_cn2 abLM_11_114 (ab_cn2 abLM_11_122 (ab_cn2 abLM_11_136 (ab_cn2 abLM_11_152 (ab_cn2 abLM_11_179 (ab_cn2 abLM_11_183 (ab_cn2 abLM_11_187 (ab_cn2 abLM_11_188 (ab_cn2 abLM_11_191 (ab_cn2 abLM_11_192 (ab_cn2 abLM_11_195 (ab_cn2 abLM_11_198 (ab_cn2 abLM_11_201 (ab_cn2 abLM_11_204 (ab_cn2 abLM_11_240 (ab_cn2 abLM_11_243 (ab_cn2 abLM_11_247 (ab_cn2 abLM_11_250 (ab_cn2 abLM_11_251 (ab_cn2 abLM_11_253 (ab_cn2 abLM_11_254 (ab_cn2 abLM_11_255 (ab_cn2 abLM_11_258 (ab_cn2 abLM_11_259 (ab_cn2 abLM_11_260 (ab_cn2 abLM_11_278 (ab_cn2 abLM_11_290 (ab_cn2 abLM_11_294 (ab_cn2 abLM_11_297 (ab_cn2 abLM_11_300 (ab_cn2 abLM_11_302 (ab_cn2 abLM_11_304 (ab_cn2 abLM_11_307 ab_nl))))))))))))))))))))))))))))))))))))))))))))))))))))))
theorem abLM_12_75 : Cond.methodLink "TimberHouseModel$Fingers" 75 ⟨"TimberHouseModel$Fingers", "nearest", "(I)I"⟩ ∈ abTW := ab_in13 96 rfl rfl
theorem abLM_12_92 : Cond.methodLink "TimberHouseModel$Fingers" 92 ⟨"TimberHouseModel$Fingers", "isIn", "(JJJ)Z"⟩ ∈ abTW := ab_in18 91 rfl rfl
theorem abLM_12_128 : Cond.methodLink "TimberHouseModel$Fingers" 128 ⟨"TimberHouseModel$Fingers", "set", "(IJII)V"⟩ ∈ abTW := ab_in18 123 rfl rfl
theorem abLM_12_154 : Cond.methodLink "TimberHouseModel$Fingers" 154 ⟨"TimberHouseModel$Fingers", "asTold", "()V"⟩ ∈ abTW := ab_in18 115 rfl rfl
theorem abLM_12_157 : Cond.methodLink "TimberHouseModel$Fingers" 157 ⟨"TimberHouseModel$Fingers", "reckon", "()V"⟩ ∈ abTW := ab_in18 119 rfl rfl
theorem abLM_12_160 : Cond.methodLink "TimberHouseModel$Fingers" 160 ⟨"TimberHouseModel$Fingers", "walk", "()I"⟩ ∈ abTW := ab_in18 143 rfl rfl
theorem abLM_12_166 : Cond.methodLink "TimberHouseModel$Fingers" 166 ⟨"TimberHouseModel$Fingers", "orderBy", "(II)V"⟩ ∈ abTW := ab_in18 160 rfl rfl
theorem abLM_12_170 : Cond.methodLink "TimberHouseModel$Fingers" 170 ⟨"TimberHouseModel$Fingers", "none", "()Z"⟩ ∈ abTW := ab_in18 168 rfl rfl
theorem abLM_a12 : ∀ q ∈ (abLM_l[12]?.getD []), abLM_P 12 q := ab_cn2 abLM_12_75 (ab_cn2 abLM_12_92 (ab_cn2 abLM_12_128 (ab_cn2 abLM_12_154 (ab_cn2 abLM_12_157 (ab_cn2 abLM_12_160 (ab_cn2 abLM_12_166 (ab_cn2 abLM_12_170 ab_nl)))))))
theorem abLM_13_68 : Cond.methodLink "TimberHouseModel$Nails" 68 ⟨"TimberHouseModel$Nails", "now", "()I"⟩ ∈ abTW := ab_in19 180 rfl rfl
theorem abLM_13_76 : Cond.methodLink "TimberHouseModel$Nails" 76 ⟨"TimberHouseModel$Nails", "must", "(Z)V"⟩ ∈ abTW := ab_in19 187 rfl rfl
theorem abLM_13_84 : Cond.methodLink "TimberHouseModel$Nails" 84 ⟨"TimberHouseModel$Nails", "kindOf", "(I)I"⟩ ∈ abTW := ab_in19 184 rfl rfl
theorem abLM_13_87 : Cond.methodLink "TimberHouseModel$Nails" 87 ⟨"TimberHouseModel$Nails", "word", "()I"⟩ ∈ abTW := ab_in19 191 rfl rfl
theorem abLM_13_93 : Cond.methodLink "TimberHouseModel$Nails" 93 ⟨"TimberHouseModel$Nails", "isFour", "(I)Z"⟩ ∈ abTW := ab_in19 215 rfl rfl
theorem abLM_13_99 : Cond.methodLink "TimberHouseModel$Nails" 99 ⟨"TimberHouseModel$Nails", "isIn", "(JJJ)Z"⟩ ∈ abTW := ab_in19 219 rfl rfl
theorem abLM_13_109 : Cond.methodLink "TimberHouseModel$Nails" 109 ⟨"TimberHouseModel$Nails", "formula", "(IIJJ)J"⟩ ∈ abTW := ab_in19 232 rfl rfl
theorem abLM_13_119 : Cond.methodLink "TimberHouseModel$Nails" 119 ⟨"TimberHouseModel$Nails", "all", "(JJ)J"⟩ ∈ abTW := ab_in20 3 rfl rfl
theorem abLM_13_125 : Cond.methodLink "TimberHouseModel$Nails" 125 ⟨"TimberHouseModel$Nails", "space", "(II)J"⟩ ∈ abTW := ab_in20 17 rfl rfl
theorem abLM_13_129 : Cond.methodLink "TimberHouseModel$Nails" 129 ⟨"TimberHouseModel$Nails", "fits", "(JJJ)J"⟩ ∈ abTW := ab_in20 21 rfl rfl
theorem abLM_13_146 : Cond.methodLink "TimberHouseModel$Nails" 146 ⟨"TimberHouseModel$Nails", "isPlace", "(I)Z"⟩ ∈ abTW := ab_in20 44 rfl rfl
theorem abLM_13_152 : Cond.methodLink "TimberHouseModel$Nails" 152 ⟨"TimberHouseModel$Nails", "noMember", "(I)Z"⟩ ∈ abTW := ab_in20 53 rfl rfl
theorem abLM_a13 : ∀ q ∈ (abLM_l[13]?.getD []), abLM_P 13 q := ab_cn2 abLM_13_68 (ab_cn2 abLM_13_76 (ab_cn2 abLM_13_84 (ab_cn2 abLM_13_87 (ab_cn2 abLM_13_93 (ab_cn2 abLM_13_99 (ab_cn2 abLM_13_109 (ab_cn2 abLM_13_119 (ab_cn2 abLM_13_125 (ab_cn2 abLM_13_129 (ab_cn2 abLM_13_146 (ab_cn2 abLM_13_152 ab_nl)))))))))))
theorem abLM_14_85 : Cond.methodLink "TimberHouseModel$Plans" 85 ⟨"TimberHouseModel$Plans", "in", "(III)Z"⟩ ∈ abTW := ab_in21 65 rfl rfl
theorem abLM_14_159 : Cond.methodLink "TimberHouseModel$Plans" 159 ⟨"TimberHouseModel$Plans", "allFit", "()Z"⟩ ∈ abTW := ab_in21 92 rfl rfl
theorem abLM_a14 : ∀ q ∈ (abLM_l[14]?.getD []), abLM_P 14 q := ab_cn2 abLM_14_85 (ab_cn2 abLM_14_159 ab_nl)
theorem abLM_15_86 : Cond.methodLink "TimberHouseModel$Prices" 86 ⟨"TimberHouseModel$Prices", "isIn", "(JJJ)Z"⟩ ∈ abTW := ab_in21 219 rfl rfl
theorem abLM_15_107 : Cond.methodLink "TimberHouseModel$Prices" 107 ⟨"TimberHouseModel$Prices", "fault", "()I"⟩ ∈ abTW := ab_in21 230 rfl rfl
theorem abLM_15_114 : Cond.methodLink "TimberHouseModel$Prices" 114 ⟨"TimberHouseModel$Prices", "size", "(J)J"⟩ ∈ abTW := ab_in22 26 rfl rfl
theorem abLM_15_126 : Cond.methodLink "TimberHouseModel$Prices" 126 ⟨"TimberHouseModel$Prices", "make", "(JJ)Z"⟩ ∈ abTW := ab_in22 22 rfl rfl
theorem abLM_15_144 : Cond.methodLink "TimberHouseModel$Prices" 144 ⟨"TimberHouseModel$Prices", "floor", "(JJ)J"⟩ ∈ abTW := ab_in22 64 rfl rfl
theorem abLM_15_169 : Cond.methodLink "TimberHouseModel$Prices" 169 ⟨"TimberHouseModel$Prices", "reckon", "()V"⟩ ∈ abTW := ab_in22 38 rfl rfl
theorem abLM_15_172 : Cond.methodLink "TimberHouseModel$Prices" 172 ⟨"TimberHouseModel$Prices", "noFact", "(I)Z"⟩ ∈ abTW := ab_in22 12 rfl rfl
theorem abLM_15_181 : Cond.methodLink "TimberHouseModel$Prices" 181 ⟨"TimberHouseModel$Prices", "factFault", "(III)I"⟩ ∈ abTW := ab_in22 8 rfl rfl
theorem abLM_15_185 : Cond.methodLink "TimberHouseModel$Prices" 185 ⟨"TimberHouseModel$Prices", "setFact", "(III)V"⟩ ∈ abTW := ab_in22 18 rfl rfl
theorem abLM_15_189 : Cond.methodLink "TimberHouseModel$Prices" 189 ⟨"TimberHouseModel$Prices", "centsNow", "()J"⟩ ∈ abTW := ab_in22 76 rfl rfl
theorem abLM_15_200 : Cond.methodLink "TimberHouseModel$Prices" 200 ⟨"TimberHouseModel$Prices", "at", "(JI)J"⟩ ∈ abTW := ab_in22 98 rfl rfl
theorem abLM_15_207 : Cond.methodLink "TimberHouseModel$Prices" 207 ⟨"TimberHouseModel$Prices", "run", "()I"⟩ ∈ abTW := ab_in22 106 rfl rfl
theorem abLM_15_210 : Cond.methodLink "TimberHouseModel$Prices" 210 ⟨"TimberHouseModel$Prices", "noOffer", "(I)Z"⟩ ∈ abTW := ab_in22 111 rfl rfl
theorem abLM_15_216 : Cond.methodLink "TimberHouseModel$Prices" 216 ⟨"TimberHouseModel$Prices", "noInvoice", "(I)Z"⟩ ∈ abTW := ab_in22 127 rfl rfl
theorem abLM_a15 : ∀ q ∈ (abLM_l[15]?.getD []), abLM_P 15 q := ab_cn2 abLM_15_86 (ab_cn2 abLM_15_107 (ab_cn2 abLM_15_114 (ab_cn2 abLM_15_126 (ab_cn2 abLM_15_144 (ab_cn2 abLM_15_169 (ab_cn2 abLM_15_172 (ab_cn2 abLM_15_181 (ab_cn2 abLM_15_185 (ab_cn2 abLM_15_189 (ab_cn2 abLM_15_200 (ab_cn2 abLM_15_207 (ab_cn2 abLM_15_210 (ab_cn2 abLM_15_216 ab_nl)))))))))))))
theorem abLM_16_118 : Cond.methodLink "TimberHouseModel$Rips" 118 ⟨"TimberHouseModel$Rips", "nearest", "(I)I"⟩ ∈ abTW := ab_in12 184 rfl rfl
theorem abLM_16_141 : Cond.methodLink "TimberHouseModel$Rips" 141 ⟨"TimberHouseModel$Rips", "isIn", "(JJJ)Z"⟩ ∈ abTW := ab_in17 110 rfl rfl
theorem abLM_16_152 : Cond.methodLink "TimberHouseModel$Rips" 152 ⟨"TimberHouseModel$Rips", "told", "(Z)Z"⟩ ∈ abTW := ab_in17 115 rfl rfl
theorem abLM_16_161 : Cond.methodLink "TimberHouseModel$Rips" 161 ⟨"TimberHouseModel$Rips", "stepsOf", "(I)I"⟩ ∈ abTW := ab_in17 128 rfl rfl
theorem abLM_16_164 : Cond.methodLink "TimberHouseModel$Rips" 164 ⟨"TimberHouseModel$Rips", "noPiece", "(I)Z"⟩ ∈ abTW := ab_in17 136 rfl rfl
theorem abLM_16_178 : Cond.methodLink "TimberHouseModel$Rips" 178 ⟨"TimberHouseModel$Rips", "isOver", "(IIIII)Z"⟩ ∈ abTW := ab_in17 182 rfl rfl
theorem abLM_16_182 : Cond.methodLink "TimberHouseModel$Rips" 182 ⟨"TimberHouseModel$Rips", "bestPiece", "(IIII)V"⟩ ∈ abTW := ab_in17 171 rfl rfl
theorem abLM_16_186 : Cond.methodLink "TimberHouseModel$Rips" 186 ⟨"TimberHouseModel$Rips", "number", "(IIII)I"⟩ ∈ abTW := ab_in17 175 rfl rfl
theorem abLM_16_190 : Cond.methodLink "TimberHouseModel$Rips" 190 ⟨"TimberHouseModel$Rips", "may", "(IIIII)Z"⟩ ∈ abTW := ab_in17 178 rfl rfl
theorem abLM_16_196 : Cond.methodLink "TimberHouseModel$Rips" 196 ⟨"TimberHouseModel$Rips", "isRipped", "(I)Z"⟩ ∈ abTW := ab_in17 194 rfl rfl
theorem abLM_16_199 : Cond.methodLink "TimberHouseModel$Rips" 199 ⟨"TimberHouseModel$Rips", "segment", "(ZIIIIII)I"⟩ ∈ abTW := ab_in17 198 rfl rfl
theorem abLM_16_203 : Cond.methodLink "TimberHouseModel$Rips" 203 ⟨"TimberHouseModel$Rips", "countBy", "(II)I"⟩ ∈ abTW := ab_in17 202 rfl rfl
theorem abLM_16_207 : Cond.methodLink "TimberHouseModel$Rips" 207 ⟨"TimberHouseModel$Rips", "isCut", "(II)Z"⟩ ∈ abTW := ab_in17 206 rfl rfl
theorem abLM_16_211 : Cond.methodLink "TimberHouseModel$Rips" 211 ⟨"TimberHouseModel$Rips", "valueBy", "(II)J"⟩ ∈ abTW := ab_in17 210 rfl rfl
theorem abLM_16_215 : Cond.methodLink "TimberHouseModel$Rips" 215 ⟨"TimberHouseModel$Rips", "reckon", "(IIIII)V"⟩ ∈ abTW := ab_in17 190 rfl rfl
theorem abLM_16_222 : Cond.methodLink "TimberHouseModel$Rips" 222 ⟨"TimberHouseModel$Rips", "segmentFrom", "(IIIIII)I"⟩ ∈ abTW := ab_in17 222 rfl rfl
theorem abLM_16_226 : Cond.methodLink "TimberHouseModel$Rips" 226 ⟨"TimberHouseModel$Rips", "put", "(IIII)V"⟩ ∈ abTW := ab_in17 226 rfl rfl
theorem abLM_16_229 : Cond.methodLink "TimberHouseModel$Rips" 229 ⟨"TimberHouseModel$Rips", "walkOne", "(IIII)V"⟩ ∈ abTW := ab_in17 218 rfl rfl
theorem abLM_16_232 : Cond.methodLink "TimberHouseModel$Rips" 232 ⟨"TimberHouseModel$Rips", "walkTwo", "(IIII)V"⟩ ∈ abTW := ab_in17 230 rfl rfl
theorem abLM_16_235 : Cond.methodLink "TimberHouseModel$Rips" 235 ⟨"TimberHouseModel$Rips", "fillPieces", "()V"⟩ ∈ abTW := ab_in17 167 rfl rfl
theorem abLM_16_238 : Cond.methodLink "TimberHouseModel$Rips" 238 ⟨"TimberHouseModel$Rips", "fillOne", "()V"⟩ ∈ abTW := ab_in17 186 rfl rfl
theorem abLM_16_241 : Cond.methodLink "TimberHouseModel$Rips" 241 ⟨"TimberHouseModel$Rips", "fillTwo", "()V"⟩ ∈ abTW := ab_in17 214 rfl rfl
theorem abLM_16_244 : Cond.methodLink "TimberHouseModel$Rips" 244 ⟨"TimberHouseModel$Rips", "walkThree", "()V"⟩ ∈ abTW := ab_in17 234 rfl rfl
theorem abLM_16_249 : Cond.methodLink "TimberHouseModel$Rips" 249 ⟨"TimberHouseModel$Rips", "plan", "()J"⟩ ∈ abTW := ab_in17 163 rfl rfl
theorem abLM_16_257 : Cond.methodLink "TimberHouseModel$Rips" 257 ⟨"TimberHouseModel$Rips", "countOf", "(I)I"⟩ ∈ abTW := ab_in18 7 rfl rfl
theorem abLM_16_263 : Cond.methodLink "TimberHouseModel$Rips" 263 ⟨"TimberHouseModel$Rips", "drop", "(I)V"⟩ ∈ abTW := ab_in18 31 rfl rfl
theorem abLM_16_269 : Cond.methodLink "TimberHouseModel$Rips" 269 ⟨"TimberHouseModel$Rips", "allHold", "(Z)Z"⟩ ∈ abTW := ab_in18 3 rfl rfl
theorem abLM_16_272 : Cond.methodLink "TimberHouseModel$Rips" 272 ⟨"TimberHouseModel$Rips", "trueWorth", "()J"⟩ ∈ abTW := ab_in18 11 rfl rfl
theorem abLM_16_275 : Cond.methodLink "TimberHouseModel$Rips" 275 ⟨"TimberHouseModel$Rips", "keep", "()V"⟩ ∈ abTW := ab_in18 15 rfl rfl
theorem abLM_16_278 : Cond.methodLink "TimberHouseModel$Rips" 278 ⟨"TimberHouseModel$Rips", "setPrices", "(I)V"⟩ ∈ abTW := ab_in18 19 rfl rfl
theorem abLM_16_281 : Cond.methodLink "TimberHouseModel$Rips" 281 ⟨"TimberHouseModel$Rips", "bringBack", "()V"⟩ ∈ abTW := ab_in18 23 rfl rfl
theorem abLM_16_284 : Cond.methodLink "TimberHouseModel$Rips" 284 ⟨"TimberHouseModel$Rips", "dropTooMany", "()V"⟩ ∈ abTW := ab_in18 27 rfl rfl
theorem abLM_16_287 : Cond.methodLink "TimberHouseModel$Rips" 287 ⟨"TimberHouseModel$Rips", "none", "()Z"⟩ ∈ abTW := ab_in18 39 rfl rfl
theorem abLM_a16 : ∀ q ∈ (abLM_l[16]?.getD []), abLM_P 16 q := ab_cn2 abLM_16_118 (ab_cn2 abLM_16_141 (ab_cn2 abLM_16_152 (ab_cn2 abLM_16_161 (ab_cn2 abLM_16_164 (ab_cn2 abLM_16_178 (ab_cn2 abLM_16_182 (ab_cn2 abLM_16_186 (ab_cn2 abLM_16_190 (ab_cn2 abLM_16_196 (ab_cn2 abLM_16_199 (ab_cn2 abLM_16_203 (ab_cn2 abLM_16_207 (ab_cn2 abLM_16_211 (ab_cn2 abLM_16_215 (ab_cn2 abLM_16_222 (ab_cn2 abLM_16_226 (ab_cn2 abLM_16_229 (ab_cn2 abLM_16_232 (ab_cn2 abLM_16_235 (ab_cn2 abLM_16_238 (ab_cn2 abLM_16_241 (ab_cn2 abLM_16_244 (ab_cn2 abLM_16_249 (ab_cn2 abLM_16_257 (ab_cn2 abLM_16_263 (ab_cn2 abLM_16_269 (ab_cn2 abLM_16_272 (ab_cn2 abLM_16_275 (ab_cn2 abLM_16_278 (ab_cn2 abLM_16_281 (ab_cn2 abLM_16_284 (ab_cn2 abLM_16_287 ab_nl))))))))))))))))))))))))))))))))
theorem abLM_17_60 : Cond.methodLink "TimberHouseModel$Router" 60 ⟨"TimberHouseModel$Router", "isIn", "(III)Z"⟩ ∈ abTW := ab_in20 188 rfl rfl
theorem abLM_17_64 : Cond.methodLink "TimberHouseModel$Router" 64 ⟨"TimberHouseModel$Router", "isCell", "(II)Z"⟩ ∈ abTW := ab_in20 195 rfl rfl
theorem abLM_17_68 : Cond.methodLink "TimberHouseModel$Router" 68 ⟨"TimberHouseModel$Router", "spanFault", "(IIIIZ)I"⟩ ∈ abTW := ab_in20 191 rfl rfl
theorem abLM_17_81 : Cond.methodLink "TimberHouseModel$Router" 81 ⟨"TimberHouseModel$Router", "now", "()I"⟩ ∈ abTW := ab_in20 223 rfl rfl
theorem abLM_17_85 : Cond.methodLink "TimberHouseModel$Router" 85 ⟨"TimberHouseModel$Router", "must", "(Z)V"⟩ ∈ abTW := ab_in20 231 rfl rfl
theorem abLM_17_89 : Cond.methodLink "TimberHouseModel$Router" 89 ⟨"TimberHouseModel$Router", "digit", "(I)I"⟩ ∈ abTW := ab_in20 235 rfl rfl
theorem abLM_17_93 : Cond.methodLink "TimberHouseModel$Router" 93 ⟨"TimberHouseModel$Router", "spaces", "()V"⟩ ∈ abTW := ab_in20 219 rfl rfl
theorem abLM_17_99 : Cond.methodLink "TimberHouseModel$Router" 99 ⟨"TimberHouseModel$Router", "statement", "(I)V"⟩ ∈ abTW := ab_in20 227 rfl rfl
theorem abLM_17_137 : Cond.methodLink "TimberHouseModel$Router" 137 ⟨"TimberHouseModel$Router", "flood", "(I)V"⟩ ∈ abTW := ab_in21 49 rfl rfl
theorem abLM_a17 : ∀ q ∈ (abLM_l[17]?.getD []), abLM_P 17 q := ab_cn2 abLM_17_60 (ab_cn2 abLM_17_64 (ab_cn2 abLM_17_68 (ab_cn2 abLM_17_81 (ab_cn2 abLM_17_85 (ab_cn2 abLM_17_89 (ab_cn2 abLM_17_93 (ab_cn2 abLM_17_99 (ab_cn2 abLM_17_137 ab_nl))))))))
theorem abLM_18_60 : Cond.methodLink "TimberHouseModel$Saw" 60 ⟨"TimberHouseModel$Saw", "isIn", "(III)Z"⟩ ∈ abTW := ab_in16 191 rfl rfl
theorem abLM_18_64 : Cond.methodLink "TimberHouseModel$Saw" 64 ⟨"TimberHouseModel$Saw", "isCell", "(II)Z"⟩ ∈ abTW := ab_in16 194 rfl rfl
theorem abLM_18_76 : Cond.methodLink "TimberHouseModel$Saw" 76 ⟨"TimberHouseModel$Saw", "isWood", "(II)Z"⟩ ∈ abTW := ab_in16 231 rfl rfl
theorem abLM_18_116 : Cond.methodLink "TimberHouseModel$Saw" 116 ⟨"TimberHouseModel$Saw", "isBetter", "(IIII)Z"⟩ ∈ abTW := ab_in17 42 rfl rfl
theorem abLM_18_119 : Cond.methodLink "TimberHouseModel$Saw" 119 ⟨"TimberHouseModel$Saw", "isThick", "(I)Z"⟩ ∈ abTW := ab_in16 235 rfl rfl
theorem abLM_18_123 : Cond.methodLink "TimberHouseModel$Saw" 123 ⟨"TimberHouseModel$Saw", "sums", "()V"⟩ ∈ abTW := ab_in16 227 rfl rfl
theorem abLM_18_130 : Cond.methodLink "TimberHouseModel$Saw" 130 ⟨"TimberHouseModel$Saw", "hasSlab", "(II)Z"⟩ ∈ abTW := ab_in17 45 rfl rfl
theorem abLM_18_146 : Cond.methodLink "TimberHouseModel$Saw" 146 ⟨"TimberHouseModel$Saw", "fill", "(I)V"⟩ ∈ abTW := ab_in16 223 rfl rfl
theorem abLM_18_156 : Cond.methodLink "TimberHouseModel$Saw" 156 ⟨"TimberHouseModel$Saw", "walk", "(I)V"⟩ ∈ abTW := ab_in17 49 rfl rfl
theorem abLM_18_163 : Cond.methodLink "TimberHouseModel$Saw" 163 ⟨"TimberHouseModel$Saw", "woodCells", "()I"⟩ ∈ abTW := ab_in17 81 rfl rfl
theorem abLM_a18 : ∀ q ∈ (abLM_l[18]?.getD []), abLM_P 18 q := ab_cn2 abLM_18_60 (ab_cn2 abLM_18_64 (ab_cn2 abLM_18_76 (ab_cn2 abLM_18_116 (ab_cn2 abLM_18_119 (ab_cn2 abLM_18_123 (ab_cn2 abLM_18_130 (ab_cn2 abLM_18_146 (ab_cn2 abLM_18_156 (ab_cn2 abLM_18_163 ab_nl)))))))))
theorem abLM_19_102 : Cond.methodLink "TimberHouseModel$Sheets" 102 ⟨"TimberHouseModel$Sheets", "in", "(III)Z"⟩ ∈ abTW := ab_in20 82 rfl rfl
theorem abLM_19_116 : Cond.methodLink "TimberHouseModel$Sheets" 116 ⟨"TimberHouseModel$Sheets", "place", "(IIII)I"⟩ ∈ abTW := ab_in20 113 rfl rfl
theorem abLM_19_123 : Cond.methodLink "TimberHouseModel$Sheets" 123 ⟨"TimberHouseModel$Sheets", "better", "(IIII)V"⟩ ∈ abTW := ab_in20 120 rfl rfl
theorem abLM_19_127 : Cond.methodLink "TimberHouseModel$Sheets" 127 ⟨"TimberHouseModel$Sheets", "fillOne", "(IIII)V"⟩ ∈ abTW := ab_in20 109 rfl rfl
theorem abLM_19_130 : Cond.methodLink "TimberHouseModel$Sheets" 130 ⟨"TimberHouseModel$Sheets", "wantAll", "()V"⟩ ∈ abTW := ab_in20 101 rfl rfl
theorem abLM_19_133 : Cond.methodLink "TimberHouseModel$Sheets" 133 ⟨"TimberHouseModel$Sheets", "fill", "()V"⟩ ∈ abTW := ab_in20 105 rfl rfl
theorem abLM_19_159 : Cond.methodLink "TimberHouseModel$Sheets" 159 ⟨"TimberHouseModel$Sheets", "look", "(III)V"⟩ ∈ abTW := ab_in20 152 rfl rfl
theorem abLM_a19 : ∀ q ∈ (abLM_l[19]?.getD []), abLM_P 19 q := ab_cn2 abLM_19_102 (ab_cn2 abLM_19_116 (ab_cn2 abLM_19_123 (ab_cn2 abLM_19_127 (ab_cn2 abLM_19_130 (ab_cn2 abLM_19_133 (ab_cn2 abLM_19_159 ab_nl))))))
theorem abLM_20_72 : Cond.methodLink "TimberHouseModel$Shop" 72 ⟨"TimberHouseModel$Shop", "isIn", "(JJJ)Z"⟩ ∈ abTW := ab_in22 149 rfl rfl
theorem abLM_20_78 : Cond.methodLink "TimberHouseModel$Shop" 78 ⟨"TimberHouseModel$Shop", "isKind", "(I)Z"⟩ ∈ abTW := ab_in22 153 rfl rfl
theorem abLM_20_82 : Cond.methodLink "TimberHouseModel$Shop" 82 ⟨"TimberHouseModel$Shop", "find", "(IJ)I"⟩ ∈ abTW := ab_in22 156 rfl rfl
theorem abLM_20_89 : Cond.methodLink "TimberHouseModel$Shop" 89 ⟨"TimberHouseModel$Shop", "isSet", "(I)Z"⟩ ∈ abTW := ab_in22 172 rfl rfl
theorem abLM_20_141 : Cond.methodLink "TimberHouseModel$Shop" 141 ⟨"TimberHouseModel$Shop", "open", "(I)I"⟩ ∈ abTW := ab_in23 14 rfl rfl
theorem abLM_20_145 : Cond.methodLink "TimberHouseModel$Shop" 145 ⟨"TimberHouseModel$Shop", "isEntry", "(I)Z"⟩ ∈ abTW := ab_in23 22 rfl rfl
theorem abLM_a20 : ∀ q ∈ (abLM_l[20]?.getD []), abLM_P 20 q := ab_cn2 abLM_20_72 (ab_cn2 abLM_20_78 (ab_cn2 abLM_20_82 (ab_cn2 abLM_20_89 (ab_cn2 abLM_20_141 (ab_cn2 abLM_20_145 ab_nl)))))
theorem abLM_21_64 : Cond.methodLink "TimberHouseModel$Turned" 64 ⟨"TimberHouseModel$Turned", "in", "(JJJ)Z"⟩ ∈ abTW := ab_in18 222 rfl rfl
theorem abLM_21_84 : Cond.methodLink "TimberHouseModel$Turned" 84 ⟨"TimberHouseModel$Turned", "look", "(II)V"⟩ ∈ abTW := ab_in18 233 rfl rfl
theorem abLM_21_117 : Cond.methodLink "TimberHouseModel$Turned" 117 ⟨"TimberHouseModel$Turned", "isPiece", "(I)Z"⟩ ∈ abTW := ab_in19 40 rfl rfl
theorem abLM_21_121 : Cond.methodLink "TimberHouseModel$Turned" 121 ⟨"TimberHouseModel$Turned", "hasPlace", "(II)Z"⟩ ∈ abTW := ab_in19 36 rfl rfl
theorem abLM_21_142 : Cond.methodLink "TimberHouseModel$Turned" 142 ⟨"TimberHouseModel$Turned", "lookRough", "(IIII)V"⟩ ∈ abTW := ab_in19 74 rfl rfl
theorem abLM_21_165 : Cond.methodLink "TimberHouseModel$Turned" 165 ⟨"TimberHouseModel$Turned", "partOf", "(JJI)J"⟩ ∈ abTW := ab_in19 124 rfl rfl
theorem abLM_a21 : ∀ q ∈ (abLM_l[21]?.getD []), abLM_P 21 q := ab_cn2 abLM_21_64 (ab_cn2 abLM_21_84 (ab_cn2 abLM_21_117 (ab_cn2 abLM_21_121 (ab_cn2 abLM_21_142 (ab_cn2 abLM_21_165 ab_nl)))))
theorem abLM_22_15 : Cond.methodLink "TimberHouseModel" 15 ⟨"TimberHouseModel$Saw", "<init>", "(II)V"⟩ ∈ abTW := ab_in12 103 rfl rfl
theorem abLM_22_24 : Cond.methodLink "TimberHouseModel" 24 ⟨"TimberHouseModel$Rips", "<init>", "(III)V"⟩ ∈ abTW := ab_in12 177 rfl rfl
theorem abLM_22_33 : Cond.methodLink "TimberHouseModel" 33 ⟨"TimberHouseModel$Fingers", "<init>", "(II)V"⟩ ∈ abTW := ab_in13 92 rfl rfl
theorem abLM_22_40 : Cond.methodLink "TimberHouseModel" 40 ⟨"TimberHouseModel$Turned", "<init>", "()V"⟩ ∈ abTW := ab_in13 211 rfl rfl
theorem abLM_22_47 : Cond.methodLink "TimberHouseModel" 47 ⟨"TimberHouseModel$Nails", "<init>", "()V"⟩ ∈ abTW := ab_in14 56 rfl rfl
theorem abLM_22_54 : Cond.methodLink "TimberHouseModel" 54 ⟨"TimberHouseModel$Sheets", "<init>", "(III)V"⟩ ∈ abTW := ab_in14 125 rfl rfl
theorem abLM_22_61 : Cond.methodLink "TimberHouseModel" 61 ⟨"TimberHouseModel$Router", "<init>", "(I)V"⟩ ∈ abTW := ab_in14 234 rfl rfl
theorem abLM_22_70 : Cond.methodLink "TimberHouseModel" 70 ⟨"TimberHouseModel$Plans", "<init>", "(I)V"⟩ ∈ abTW := ab_in15 70 rfl rfl
theorem abLM_22_77 : Cond.methodLink "TimberHouseModel" 77 ⟨"TimberHouseModel$Prices", "<init>", "()V"⟩ ∈ abTW := ab_in15 179 rfl rfl
theorem abLM_22_84 : Cond.methodLink "TimberHouseModel" 84 ⟨"TimberHouseModel$Shop", "<init>", "()V"⟩ ∈ abTW := ab_in16 50 rfl rfl
theorem abLM_22_98 : Cond.methodLink "TimberHouseModel" 98 ⟨"TimberHouseModel", "saw", "(IIIIIII)J"⟩ ∈ abTW := ab_in16 179 rfl rfl
theorem abLM_22_101 : Cond.methodLink "TimberHouseModel" 101 ⟨"TimberHouseModel", "rips", "(IIIIIII)J"⟩ ∈ abTW := ab_in17 101 rfl rfl
theorem abLM_22_103 : Cond.methodLink "TimberHouseModel" 103 ⟨"TimberHouseModel", "fingers", "(IIIIIII)J"⟩ ∈ abTW := ab_in18 82 rfl rfl
theorem abLM_22_105 : Cond.methodLink "TimberHouseModel" 105 ⟨"TimberHouseModel", "turned", "(IIIIIII)J"⟩ ∈ abTW := ab_in18 213 rfl rfl
theorem abLM_22_107 : Cond.methodLink "TimberHouseModel" 107 ⟨"TimberHouseModel", "nails", "(IIIIIII)J"⟩ ∈ abTW := ab_in19 164 rfl rfl
theorem abLM_22_109 : Cond.methodLink "TimberHouseModel" 109 ⟨"TimberHouseModel", "sheets", "(IIIIIII)J"⟩ ∈ abTW := ab_in20 74 rfl rfl
theorem abLM_22_111 : Cond.methodLink "TimberHouseModel" 111 ⟨"TimberHouseModel", "router", "(IIIIIII)J"⟩ ∈ abTW := ab_in20 180 rfl rfl
theorem abLM_22_113 : Cond.methodLink "TimberHouseModel" 113 ⟨"TimberHouseModel", "plans", "(IIIIIII)J"⟩ ∈ abTW := ab_in21 57 rfl rfl
theorem abLM_22_115 : Cond.methodLink "TimberHouseModel" 115 ⟨"TimberHouseModel", "prices", "(IIIIIII)J"⟩ ∈ abTW := ab_in21 209 rfl rfl
theorem abLM_22_117 : Cond.methodLink "TimberHouseModel" 117 ⟨"TimberHouseModel", "shop", "(IIIIIII)J"⟩ ∈ abTW := ab_in22 140 rfl rfl
theorem abLM_22_119 : Cond.methodLink "TimberHouseModel" 119 ⟨"TimberHouseModel", "anew", "(I)Z"⟩ ∈ abTW := ab_in16 183 rfl rfl
theorem abLM_22_123 : Cond.methodLink "TimberHouseModel" 123 ⟨"TimberHouseModel$Saw", "cell", "(IIIZ)Z"⟩ ∈ abTW := ab_in16 187 rfl rfl
theorem abLM_22_127 : Cond.methodLink "TimberHouseModel" 127 ⟨"TimberHouseModel$Saw", "thrown", "()I"⟩ ∈ abTW := ab_in16 198 rfl rfl
theorem abLM_22_131 : Cond.methodLink "TimberHouseModel" 131 ⟨"TimberHouseModel", "told", "(JII)J"⟩ ∈ abTW := ab_in16 202 rfl rfl
theorem abLM_22_135 : Cond.methodLink "TimberHouseModel" 135 ⟨"TimberHouseModel$Saw", "span", "(IIII)V"⟩ ∈ abTW := ab_in16 206 rfl rfl
theorem abLM_22_139 : Cond.methodLink "TimberHouseModel" 139 ⟨"TimberHouseModel$Saw", "knot", "(III)Z"⟩ ∈ abTW := ab_in16 210 rfl rfl
theorem abLM_22_143 : Cond.methodLink "TimberHouseModel" 143 ⟨"TimberHouseModel$Saw", "size", "(IIII)I"⟩ ∈ abTW := ab_in16 214 rfl rfl
theorem abLM_22_147 : Cond.methodLink "TimberHouseModel" 147 ⟨"TimberHouseModel$Saw", "run", "()I"⟩ ∈ abTW := ab_in16 219 rfl rfl
theorem abLM_22_150 : Cond.methodLink "TimberHouseModel" 150 ⟨"TimberHouseModel$Saw", "board", "(II)I"⟩ ∈ abTW := ab_in17 61 rfl rfl
theorem abLM_22_154 : Cond.methodLink "TimberHouseModel" 154 ⟨"TimberHouseModel$Saw", "all", "(I)I"⟩ ∈ abTW := ab_in17 69 rfl rfl
theorem abLM_22_158 : Cond.methodLink "TimberHouseModel" 158 ⟨"TimberHouseModel$Saw", "worth", "(I)I"⟩ ∈ abTW := ab_in17 73 rfl rfl
theorem abLM_22_161 : Cond.methodLink "TimberHouseModel" 161 ⟨"TimberHouseModel$Saw", "yields", "(I)I"⟩ ∈ abTW := ab_in17 77 rfl rfl
theorem abLM_22_164 : Cond.methodLink "TimberHouseModel" 164 ⟨"TimberHouseModel$Saw", "may", "(IIII)Z"⟩ ∈ abTW := ab_in17 85 rfl rfl
theorem abLM_22_168 : Cond.methodLink "TimberHouseModel" 168 ⟨"TimberHouseModel$Saw", "apart", "(II)Z"⟩ ∈ abTW := ab_in17 89 rfl rfl
theorem abLM_22_172 : Cond.methodLink "TimberHouseModel" 172 ⟨"TimberHouseModel$Saw", "wood", "()I"⟩ ∈ abTW := ab_in17 97 rfl rfl
theorem abLM_22_175 : Cond.methodLink "TimberHouseModel" 175 ⟨"TimberHouseModel$Rips", "fault", "(IIIIII)Z"⟩ ∈ abTW := ab_in17 105 rfl rfl
theorem abLM_22_179 : Cond.methodLink "TimberHouseModel" 179 ⟨"TimberHouseModel$Rips", "thrown", "()I"⟩ ∈ abTW := ab_in17 119 rfl rfl
theorem abLM_22_180 : Cond.methodLink "TimberHouseModel" 180 ⟨"TimberHouseModel$Rips", "piece", "(IIIJ)I"⟩ ∈ abTW := ab_in17 123 rfl rfl
theorem abLM_22_184 : Cond.methodLink "TimberHouseModel" 184 ⟨"TimberHouseModel$Rips", "allows", "(III)Z"⟩ ∈ abTW := ab_in17 132 rfl rfl
theorem abLM_22_187 : Cond.methodLink "TimberHouseModel" 187 ⟨"TimberHouseModel$Rips", "gang", "(I)Z"⟩ ∈ abTW := ab_in17 140 rfl rfl
theorem abLM_22_190 : Cond.methodLink "TimberHouseModel" 190 ⟨"TimberHouseModel$Rips", "need", "(II)Z"⟩ ∈ abTW := ab_in17 144 rfl rfl
theorem abLM_22_193 : Cond.methodLink "TimberHouseModel" 193 ⟨"TimberHouseModel$Rips", "margin", "(I)Z"⟩ ∈ abTW := ab_in17 149 rfl rfl
theorem abLM_22_196 : Cond.methodLink "TimberHouseModel" 196 ⟨"TimberHouseModel$Rips", "bow", "(I)Z"⟩ ∈ abTW := ab_in17 153 rfl rfl
theorem abLM_22_199 : Cond.methodLink "TimberHouseModel" 199 ⟨"TimberHouseModel$Rips", "run", "(II)I"⟩ ∈ abTW := ab_in17 158 rfl rfl
theorem abLM_22_201 : Cond.methodLink "TimberHouseModel" 201 ⟨"TimberHouseModel$Rips", "prices", "(I)I"⟩ ∈ abTW := ab_in17 238 rfl rfl
theorem abLM_22_203 : Cond.methodLink "TimberHouseModel" 203 ⟨"TimberHouseModel$Rips", "worth", "()J"⟩ ∈ abTW := ab_in18 35 rfl rfl
theorem abLM_22_206 : Cond.methodLink "TimberHouseModel" 206 ⟨"TimberHouseModel$Rips", "at", "(II)I"⟩ ∈ abTW := ab_in18 43 rfl rfl
theorem abLM_22_209 : Cond.methodLink "TimberHouseModel" 209 ⟨"TimberHouseModel$Rips", "clear2", "(I)Z"⟩ ∈ abTW := ab_in18 48 rfl rfl
theorem abLM_22_212 : Cond.methodLink "TimberHouseModel" 212 ⟨"TimberHouseModel$Rips", "bound", "()J"⟩ ∈ abTW := ab_in18 52 rfl rfl
theorem abLM_22_215 : Cond.methodLink "TimberHouseModel" 215 ⟨"TimberHouseModel$Rips", "price", "(II)J"⟩ ∈ abTW := ab_in18 56 rfl rfl
theorem abLM_22_219 : Cond.methodLink "TimberHouseModel" 219 ⟨"TimberHouseModel$Rips", "salvage", "(II)I"⟩ ∈ abTW := ab_in18 60 rfl rfl
theorem abLM_22_222 : Cond.methodLink "TimberHouseModel" 222 ⟨"TimberHouseModel$Rips", "panel", "(II)I"⟩ ∈ abTW := ab_in18 73 rfl rfl
theorem abLM_22_225 : Cond.methodLink "TimberHouseModel" 225 ⟨"TimberHouseModel$Rips", "greatest", "()Z"⟩ ∈ abTW := ab_in18 78 rfl rfl
theorem abLM_22_229 : Cond.methodLink "TimberHouseModel" 229 ⟨"TimberHouseModel$Fingers", "piece", "(II)I"⟩ ∈ abTW := ab_in18 86 rfl rfl
theorem abLM_22_231 : Cond.methodLink "TimberHouseModel" 231 ⟨"TimberHouseModel$Fingers", "thrown", "()I"⟩ ∈ abTW := ab_in18 94 rfl rfl
theorem abLM_22_232 : Cond.methodLink "TimberHouseModel" 232 ⟨"TimberHouseModel$Fingers", "want", "(IJ)Z"⟩ ∈ abTW := ab_in18 98 rfl rfl
theorem abLM_22_236 : Cond.methodLink "TimberHouseModel" 236 ⟨"TimberHouseModel$Fingers", "bar", "(II)Z"⟩ ∈ abTW := ab_in18 103 rfl rfl
theorem abLM_22_239 : Cond.methodLink "TimberHouseModel" 239 ⟨"TimberHouseModel$Fingers", "group", "(IZ)Z"⟩ ∈ abTW := ab_in18 107 rfl rfl
theorem abLM_22_243 : Cond.methodLink "TimberHouseModel" 243 ⟨"TimberHouseModel$Fingers", "run", "()I"⟩ ∈ abTW := ab_in18 111 rfl rfl
theorem abLM_22_244 : Cond.methodLink "TimberHouseModel" 244 ⟨"TimberHouseModel$Fingers", "order", "(I)I"⟩ ∈ abTW := ab_in18 155 rfl rfl
theorem abLM_22_247 : Cond.methodLink "TimberHouseModel" 247 ⟨"TimberHouseModel$Fingers", "taken", "(I)I"⟩ ∈ abTW := ab_in18 164 rfl rfl
theorem abLM_22_250 : Cond.methodLink "TimberHouseModel" 250 ⟨"TimberHouseModel$Fingers", "worth", "(I)J"⟩ ∈ abTW := ab_in18 172 rfl rfl
theorem abLM_22_253 : Cond.methodLink "TimberHouseModel" 253 ⟨"TimberHouseModel$Fingers", "product", "(II)I"⟩ ∈ abTW := ab_in18 176 rfl rfl
theorem abLM_22_256 : Cond.methodLink "TimberHouseModel" 256 ⟨"TimberHouseModel$Fingers", "joint", "(II)I"⟩ ∈ abTW := ab_in18 180 rfl rfl
theorem abLM_22_259 : Cond.methodLink "TimberHouseModel" 259 ⟨"TimberHouseModel$Fingers", "cure", "(II)Z"⟩ ∈ abTW := ab_in18 184 rfl rfl
theorem abLM_22_262 : Cond.methodLink "TimberHouseModel" 262 ⟨"TimberHouseModel$Fingers", "load", "(II)Z"⟩ ∈ abTW := ab_in18 189 rfl rfl
theorem abLM_22_267 : Cond.methodLink "TimberHouseModel" 267 ⟨"TimberHouseModel$Fingers", "test", "(ID)I"⟩ ∈ abTW := ab_in18 194 rfl rfl
theorem abLM_22_271 : Cond.methodLink "TimberHouseModel" 271 ⟨"TimberHouseModel$Fingers", "counted", "(I)J"⟩ ∈ abTW := ab_in18 205 rfl rfl
theorem abLM_22_274 : Cond.methodLink "TimberHouseModel" 274 ⟨"TimberHouseModel$Fingers", "stop", "(I)I"⟩ ∈ abTW := ab_in18 209 rfl rfl
theorem abLM_22_277 : Cond.methodLink "TimberHouseModel" 277 ⟨"TimberHouseModel$Turned", "start", "(I)V"⟩ ∈ abTW := ab_in18 217 rfl rfl
theorem abLM_22_280 : Cond.methodLink "TimberHouseModel" 280 ⟨"TimberHouseModel$Turned", "thrown", "()I"⟩ ∈ abTW := ab_in18 225 rfl rfl
theorem abLM_22_281 : Cond.methodLink "TimberHouseModel" 281 ⟨"TimberHouseModel$Turned", "line", "(II)I"⟩ ∈ abTW := ab_in18 229 rfl rfl
theorem abLM_22_284 : Cond.methodLink "TimberHouseModel" 284 ⟨"TimberHouseModel$Turned", "arc", "(IIIIZ)Z"⟩ ∈ abTW := ab_in19 6 rfl rfl
theorem abLM_22_288 : Cond.methodLink "TimberHouseModel" 288 ⟨"TimberHouseModel$Turned", "turn", "()I"⟩ ∈ abTW := ab_in19 21 rfl rfl
theorem abLM_22_291 : Cond.methodLink "TimberHouseModel" 291 ⟨"TimberHouseModel$Turned", "radius", "(II)I"⟩ ∈ abTW := ab_in19 32 rfl rfl
theorem abLM_22_294 : Cond.methodLink "TimberHouseModel" 294 ⟨"TimberHouseModel$Turned", "about", "(II)I"⟩ ∈ abTW := ab_in19 44 rfl rfl
theorem abLM_22_297 : Cond.methodLink "TimberHouseModel" 297 ⟨"TimberHouseModel$Turned", "tool", "(I)I"⟩ ∈ abTW := ab_in19 53 rfl rfl
theorem abLM_22_300 : Cond.methodLink "TimberHouseModel" 300 ⟨"TimberHouseModel$Turned", "reached", "(III)I"⟩ ∈ abTW := ab_in19 58 rfl rfl
theorem abLM_22_304 : Cond.methodLink "TimberHouseModel" 304 ⟨"TimberHouseModel$Turned", "left", "(II)I"⟩ ∈ abTW := ab_in19 66 rfl rfl
theorem abLM_22_307 : Cond.methodLink "TimberHouseModel" 307 ⟨"TimberHouseModel$Turned", "passes", "(IIII)I"⟩ ∈ abTW := ab_in19 70 rfl rfl
theorem abLM_22_310 : Cond.methodLink "TimberHouseModel" 310 ⟨"TimberHouseModel$Turned", "cut", "(IIIII)I"⟩ ∈ abTW := ab_in19 84 rfl rfl
theorem abLM_22_314 : Cond.methodLink "TimberHouseModel" 314 ⟨"TimberHouseModel$Turned", "steady", "(III)I"⟩ ∈ abTW := ab_in19 88 rfl rfl
theorem abLM_22_317 : Cond.methodLink "TimberHouseModel" 317 ⟨"TimberHouseModel$Turned", "volume", "(IZ)J"⟩ ∈ abTW := ab_in19 96 rfl rfl
theorem abLM_22_321 : Cond.methodLink "TimberHouseModel" 321 ⟨"TimberHouseModel$Turned", "hollow", "(III)I"⟩ ∈ abTW := ab_in19 103 rfl rfl
theorem abLM_22_324 : Cond.methodLink "TimberHouseModel" 324 ⟨"TimberHouseModel$Turned", "copy", "(II)I"⟩ ∈ abTW := ab_in19 107 rfl rfl
theorem abLM_22_327 : Cond.methodLink "TimberHouseModel" 327 ⟨"TimberHouseModel$Turned", "ring", "()I"⟩ ∈ abTW := ab_in19 111 rfl rfl
theorem abLM_22_330 : Cond.methodLink "TimberHouseModel" 330 ⟨"TimberHouseModel$Turned", "wedge", "(III)I"⟩ ∈ abTW := ab_in19 115 rfl rfl
theorem abLM_22_333 : Cond.methodLink "TimberHouseModel" 333 ⟨"TimberHouseModel$Turned", "mitre", "(III)J"⟩ ∈ abTW := ab_in19 120 rfl rfl
theorem abLM_22_337 : Cond.methodLink "TimberHouseModel" 337 ⟨"TimberHouseModel$Turned", "gap", "(II)J"⟩ ∈ abTW := ab_in19 127 rfl rfl
theorem abLM_22_340 : Cond.methodLink "TimberHouseModel" 340 ⟨"TimberHouseModel$Turned", "closes", "(I)Z"⟩ ∈ abTW := ab_in19 137 rfl rfl
theorem abLM_22_343 : Cond.methodLink "TimberHouseModel" 343 ⟨"TimberHouseModel$Turned", "flute", "(III)J"⟩ ∈ abTW := ab_in19 141 rfl rfl
theorem abLM_22_346 : Cond.methodLink "TimberHouseModel" 346 ⟨"TimberHouseModel$Turned", "thread", "(II)V"⟩ ∈ abTW := ab_in19 147 rfl rfl
theorem abLM_22_349 : Cond.methodLink "TimberHouseModel" 349 ⟨"TimberHouseModel$Turned", "threadAt", "(II)J"⟩ ∈ abTW := ab_in19 151 rfl rfl
theorem abLM_22_352 : Cond.methodLink "TimberHouseModel" 352 ⟨"TimberHouseModel$Turned", "row", "(II)I"⟩ ∈ abTW := ab_in19 155 rfl rfl
theorem abLM_22_355 : Cond.methodLink "TimberHouseModel" 355 ⟨"TimberHouseModel$Turned", "speed", "(II)I"⟩ ∈ abTW := ab_in19 160 rfl rfl
theorem abLM_22_358 : Cond.methodLink "TimberHouseModel" 358 ⟨"TimberHouseModel$Nails", "unit", "(I)Z"⟩ ∈ abTW := ab_in19 168 rfl rfl
theorem abLM_22_361 : Cond.methodLink "TimberHouseModel" 361 ⟨"TimberHouseModel$Nails", "thrown", "()I"⟩ ∈ abTW := ab_in19 172 rfl rfl
theorem abLM_22_362 : Cond.methodLink "TimberHouseModel" 362 ⟨"TimberHouseModel$Nails", "read", "()I"⟩ ∈ abTW := ab_in19 176 rfl rfl
theorem abLM_22_365 : Cond.methodLink "TimberHouseModel" 365 ⟨"TimberHouseModel$Nails", "rule", "(II)I"⟩ ∈ abTW := ab_in19 211 rfl rfl
theorem abLM_22_368 : Cond.methodLink "TimberHouseModel" 368 ⟨"TimberHouseModel$Nails", "set", "(II)V"⟩ ∈ abTW := ab_in19 222 rfl rfl
theorem abLM_22_371 : Cond.methodLink "TimberHouseModel" 371 ⟨"TimberHouseModel$Nails", "holds", "(IIIII)J"⟩ ∈ abTW := ab_in19 226 rfl rfl
theorem abLM_22_375 : Cond.methodLink "TimberHouseModel" 375 ⟨"TimberHouseModel$Nails", "together", "(IJ)J"⟩ ∈ abTW := ab_in19 238 rfl rfl
theorem abLM_22_379 : Cond.methodLink "TimberHouseModel" 379 ⟨"TimberHouseModel$Nails", "count", "(JJ)I"⟩ ∈ abTW := ab_in20 8 rfl rfl
theorem abLM_22_383 : Cond.methodLink "TimberHouseModel" 383 ⟨"TimberHouseModel$Nails", "pattern", "(IIII)Z"⟩ ∈ abTW := ab_in20 12 rfl rfl
theorem abLM_22_386 : Cond.methodLink "TimberHouseModel" 386 ⟨"TimberHouseModel$Nails", "at", "(II)I"⟩ ∈ abTW := ab_in20 24 rfl rfl
theorem abLM_22_387 : Cond.methodLink "TimberHouseModel" 387 ⟨"TimberHouseModel$Nails", "place", "(II)I"⟩ ∈ abTW := ab_in20 28 rfl rfl
theorem abLM_22_390 : Cond.methodLink "TimberHouseModel" 390 ⟨"TimberHouseModel$Nails", "clear", "()V"⟩ ∈ abTW := ab_in20 32 rfl rfl
theorem abLM_22_393 : Cond.methodLink "TimberHouseModel" 393 ⟨"TimberHouseModel$Nails", "keeps", "(III)I"⟩ ∈ abTW := ab_in20 36 rfl rfl
theorem abLM_22_396 : Cond.methodLink "TimberHouseModel" 396 ⟨"TimberHouseModel$Nails", "member", "(IIIII)I"⟩ ∈ abTW := ab_in20 40 rfl rfl
theorem abLM_22_399 : Cond.methodLink "TimberHouseModel" 399 ⟨"TimberHouseModel$Nails", "in", "(III)Z"⟩ ∈ abTW := ab_in20 49 rfl rfl
theorem abLM_22_402 : Cond.methodLink "TimberHouseModel" 402 ⟨"TimberHouseModel$Nails", "teeth", "(IIIIII)I"⟩ ∈ abTW := ab_in20 61 rfl rfl
theorem abLM_22_406 : Cond.methodLink "TimberHouseModel" 406 ⟨"TimberHouseModel$Nails", "thick", "(II)Z"⟩ ∈ abTW := ab_in20 66 rfl rfl
theorem abLM_22_409 : Cond.methodLink "TimberHouseModel" 409 ⟨"TimberHouseModel$Nails", "hole", "(I)I"⟩ ∈ abTW := ab_in20 70 rfl rfl
theorem abLM_22_412 : Cond.methodLink "TimberHouseModel" 412 ⟨"TimberHouseModel$Sheets", "sheet", "(IIII)I"⟩ ∈ abTW := ab_in20 78 rfl rfl
theorem abLM_22_415 : Cond.methodLink "TimberHouseModel" 415 ⟨"TimberHouseModel$Sheets", "thrown", "()I"⟩ ∈ abTW := ab_in20 85 rfl rfl
theorem abLM_22_416 : Cond.methodLink "TimberHouseModel" 416 ⟨"TimberHouseModel$Sheets", "part", "(IIIZ)I"⟩ ∈ abTW := ab_in20 89 rfl rfl
theorem abLM_22_420 : Cond.methodLink "TimberHouseModel" 420 ⟨"TimberHouseModel$Sheets", "count", "(II)I"⟩ ∈ abTW := ab_in20 93 rfl rfl
theorem abLM_22_422 : Cond.methodLink "TimberHouseModel" 422 ⟨"TimberHouseModel$Sheets", "worth", "(IIII)I"⟩ ∈ abTW := ab_in20 97 rfl rfl
theorem abLM_22_424 : Cond.methodLink "TimberHouseModel" 424 ⟨"TimberHouseModel$Sheets", "run", "()I"⟩ ∈ abTW := ab_in20 124 rfl rfl
theorem abLM_22_425 : Cond.methodLink "TimberHouseModel" 425 ⟨"TimberHouseModel$Sheets", "cut", "(II)I"⟩ ∈ abTW := ab_in20 148 rfl rfl
theorem abLM_22_427 : Cond.methodLink "TimberHouseModel" 427 ⟨"TimberHouseModel$Sheets", "taken", "(III)I"⟩ ∈ abTW := ab_in20 160 rfl rfl
theorem abLM_22_429 : Cond.methodLink "TimberHouseModel" 429 ⟨"TimberHouseModel$Sheets", "rest", "(III)I"⟩ ∈ abTW := ab_in20 164 rfl rfl
theorem abLM_22_432 : Cond.methodLink "TimberHouseModel" 432 ⟨"TimberHouseModel$Sheets", "left", "(I)I"⟩ ∈ abTW := ab_in20 168 rfl rfl
theorem abLM_22_434 : Cond.methodLink "TimberHouseModel" 434 ⟨"TimberHouseModel$Sheets", "all", "(I)J"⟩ ∈ abTW := ab_in20 172 rfl rfl
theorem abLM_22_436 : Cond.methodLink "TimberHouseModel" 436 ⟨"TimberHouseModel$Sheets", "bound", "()I"⟩ ∈ abTW := ab_in20 176 rfl rfl
theorem abLM_22_438 : Cond.methodLink "TimberHouseModel" 438 ⟨"TimberHouseModel$Router", "target", "(IIIII)V"⟩ ∈ abTW := ab_in20 184 rfl rfl
theorem abLM_22_442 : Cond.methodLink "TimberHouseModel" 442 ⟨"TimberHouseModel$Router", "thrown", "()I"⟩ ∈ abTW := ab_in20 199 rfl rfl
theorem abLM_22_443 : Cond.methodLink "TimberHouseModel" 443 ⟨"TimberHouseModel$Router", "keep", "(IIIIZ)V"⟩ ∈ abTW := ab_in20 203 rfl rfl
theorem abLM_22_447 : Cond.methodLink "TimberHouseModel" 447 ⟨"TimberHouseModel$Router", "tool", "(III)V"⟩ ∈ abTW := ab_in20 207 rfl rfl
theorem abLM_22_449 : Cond.methodLink "TimberHouseModel" 449 ⟨"TimberHouseModel$Router", "unit", "(I)Z"⟩ ∈ abTW := ab_in20 211 rfl rfl
theorem abLM_22_450 : Cond.methodLink "TimberHouseModel" 450 ⟨"TimberHouseModel$Router", "read", "()I"⟩ ∈ abTW := ab_in20 215 rfl rfl
theorem abLM_22_451 : Cond.methodLink "TimberHouseModel" 451 ⟨"TimberHouseModel$Router", "run", "()I"⟩ ∈ abTW := ab_in21 3 rfl rfl
theorem abLM_22_452 : Cond.methodLink "TimberHouseModel" 452 ⟨"TimberHouseModel$Router", "about", "(I)I"⟩ ∈ abTW := ab_in21 25 rfl rfl
theorem abLM_22_454 : Cond.methodLink "TimberHouseModel" 454 ⟨"TimberHouseModel$Router", "cell", "(III)I"⟩ ∈ abTW := ab_in21 29 rfl rfl
theorem abLM_22_456 : Cond.methodLink "TimberHouseModel" 456 ⟨"TimberHouseModel$Router", "check", "(I)I"⟩ ∈ abTW := ab_in21 33 rfl rfl
theorem abLM_22_459 : Cond.methodLink "TimberHouseModel" 459 ⟨"TimberHouseModel$Router", "reached", "(I)I"⟩ ∈ abTW := ab_in21 37 rfl rfl
theorem abLM_22_461 : Cond.methodLink "TimberHouseModel" 461 ⟨"TimberHouseModel$Router", "pieces", "()I"⟩ ∈ abTW := ab_in21 45 rfl rfl
theorem abLM_22_464 : Cond.methodLink "TimberHouseModel" 464 ⟨"TimberHouseModel$Router", "blank", "()V"⟩ ∈ abTW := ab_in21 53 rfl rfl
theorem abLM_22_467 : Cond.methodLink "TimberHouseModel" 467 ⟨"TimberHouseModel$Plans", "machine", "(I)I"⟩ ∈ abTW := ab_in21 61 rfl rfl
theorem abLM_22_470 : Cond.methodLink "TimberHouseModel" 470 ⟨"TimberHouseModel$Plans", "thrown", "()I"⟩ ∈ abTW := ab_in21 68 rfl rfl
theorem abLM_22_471 : Cond.methodLink "TimberHouseModel" 471 ⟨"TimberHouseModel$Plans", "out", "(III)I"⟩ ∈ abTW := ab_in21 72 rfl rfl
theorem abLM_22_474 : Cond.methodLink "TimberHouseModel" 474 ⟨"TimberHouseModel$Plans", "job", "(II)I"⟩ ∈ abTW := ab_in21 76 rfl rfl
theorem abLM_22_477 : Cond.methodLink "TimberHouseModel" 477 ⟨"TimberHouseModel$Plans", "due", "(II)V"⟩ ∈ abTW := ab_in21 80 rfl rfl
theorem abLM_22_480 : Cond.methodLink "TimberHouseModel" 480 ⟨"TimberHouseModel$Plans", "step", "(IIII)I"⟩ ∈ abTW := ab_in21 84 rfl rfl
theorem abLM_22_483 : Cond.methodLink "TimberHouseModel" 483 ⟨"TimberHouseModel$Plans", "run", "(I)I"⟩ ∈ abTW := ab_in21 88 rfl rfl
theorem abLM_22_485 : Cond.methodLink "TimberHouseModel" 485 ⟨"TimberHouseModel$Plans", "improve", "(I)I"⟩ ∈ abTW := ab_in21 151 rfl rfl
theorem abLM_22_488 : Cond.methodLink "TimberHouseModel" 488 ⟨"TimberHouseModel$Plans", "at", "(II)I"⟩ ∈ abTW := ab_in21 165 rfl rfl
theorem abLM_22_489 : Cond.methodLink "TimberHouseModel" 489 ⟨"TimberHouseModel$Plans", "order", "(I)I"⟩ ∈ abTW := ab_in21 169 rfl rfl
theorem abLM_22_490 : Cond.methodLink "TimberHouseModel" 490 ⟨"TimberHouseModel$Plans", "about", "(I)J"⟩ ∈ abTW := ab_in21 173 rfl rfl
theorem abLM_22_492 : Cond.methodLink "TimberHouseModel" 492 ⟨"TimberHouseModel$Plans", "alone", "(I)J"⟩ ∈ abTW := ab_in21 177 rfl rfl
theorem abLM_22_495 : Cond.methodLink "TimberHouseModel" 495 ⟨"TimberHouseModel$Plans", "promise", "(I)I"⟩ ∈ abTW := ab_in21 181 rfl rfl
theorem abLM_22_498 : Cond.methodLink "TimberHouseModel" 498 ⟨"TimberHouseModel$Plans", "clash", "(I)I"⟩ ∈ abTW := ab_in21 185 rfl rfl
theorem abLM_22_501 : Cond.methodLink "TimberHouseModel" 501 ⟨"TimberHouseModel$Plans", "check", "()I"⟩ ∈ abTW := ab_in21 193 rfl rfl
theorem abLM_22_503 : Cond.methodLink "TimberHouseModel" 503 ⟨"TimberHouseModel$Prices", "unit", "(I)Z"⟩ ∈ abTW := ab_in21 213 rfl rfl
theorem abLM_22_504 : Cond.methodLink "TimberHouseModel" 504 ⟨"TimberHouseModel$Prices", "thrown", "()I"⟩ ∈ abTW := ab_in21 222 rfl rfl
theorem abLM_22_505 : Cond.methodLink "TimberHouseModel" 505 ⟨"TimberHouseModel$Prices", "read", "()I"⟩ ∈ abTW := ab_in21 226 rfl rfl
theorem abLM_22_506 : Cond.methodLink "TimberHouseModel" 506 ⟨"TimberHouseModel$Prices", "fact", "(III)V"⟩ ∈ abTW := ab_in22 4 rfl rfl
theorem abLM_22_509 : Cond.methodLink "TimberHouseModel" 509 ⟨"TimberHouseModel$Prices", "forget", "(I)Z"⟩ ∈ abTW := ab_in22 30 rfl rfl
theorem abLM_22_512 : Cond.methodLink "TimberHouseModel" 512 ⟨"TimberHouseModel$Prices", "run", "()I"⟩ ∈ abTW := ab_in22 34 rfl rfl
theorem abLM_22_513 : Cond.methodLink "TimberHouseModel" 513 ⟨"TimberHouseModel$Prices", "cents", "()J"⟩ ∈ abTW := ab_in22 72 rfl rfl
theorem abLM_22_516 : Cond.methodLink "TimberHouseModel" 516 ⟨"TimberHouseModel$Prices", "line", "(II)J"⟩ ∈ abTW := ab_in22 80 rfl rfl
theorem abLM_22_518 : Cond.methodLink "TimberHouseModel" 518 ⟨"TimberHouseModel$Prices", "changed", "(III)J"⟩ ∈ abTW := ab_in22 85 rfl rfl
theorem abLM_22_521 : Cond.methodLink "TimberHouseModel" 521 ⟨"TimberHouseModel$Prices", "currency", "(III)I"⟩ ∈ abTW := ab_in22 89 rfl rfl
theorem abLM_22_524 : Cond.methodLink "TimberHouseModel" 524 ⟨"TimberHouseModel$Prices", "centsAt", "(I)J"⟩ ∈ abTW := ab_in22 94 rfl rfl
theorem abLM_22_527 : Cond.methodLink "TimberHouseModel" 527 ⟨"TimberHouseModel$Prices", "offer", "(I)I"⟩ ∈ abTW := ab_in22 102 rfl rfl
theorem abLM_22_530 : Cond.methodLink "TimberHouseModel" 530 ⟨"TimberHouseModel$Prices", "offered", "(II)J"⟩ ∈ abTW := ab_in22 107 rfl rfl
theorem abLM_22_533 : Cond.methodLink "TimberHouseModel" 533 ⟨"TimberHouseModel$Prices", "differs", "(II)J"⟩ ∈ abTW := ab_in22 115 rfl rfl
theorem abLM_22_536 : Cond.methodLink "TimberHouseModel" 536 ⟨"TimberHouseModel$Prices", "invoice", "(II)I"⟩ ∈ abTW := ab_in22 119 rfl rfl
theorem abLM_22_539 : Cond.methodLink "TimberHouseModel" 539 ⟨"TimberHouseModel$Prices", "left", "(I)J"⟩ ∈ abTW := ab_in22 123 rfl rfl
theorem abLM_22_541 : Cond.methodLink "TimberHouseModel" 541 ⟨"TimberHouseModel$Prices", "refund", "(II)Z"⟩ ∈ abTW := ab_in22 131 rfl rfl
theorem abLM_22_544 : Cond.methodLink "TimberHouseModel" 544 ⟨"TimberHouseModel$Prices", "learn", "(II)I"⟩ ∈ abTW := ab_in22 135 rfl rfl
theorem abLM_22_547 : Cond.methodLink "TimberHouseModel" 547 ⟨"TimberHouseModel$Shop", "tell", "(IJIIJJ)I"⟩ ∈ abTW := ab_in22 144 rfl rfl
theorem abLM_22_551 : Cond.methodLink "TimberHouseModel" 551 ⟨"TimberHouseModel$Shop", "thrown", "()I"⟩ ∈ abTW := ab_in22 160 rfl rfl
theorem abLM_22_552 : Cond.methodLink "TimberHouseModel" 552 ⟨"TimberHouseModel$Shop", "set", "(I)I"⟩ ∈ abTW := ab_in22 164 rfl rfl
theorem abLM_22_554 : Cond.methodLink "TimberHouseModel" 554 ⟨"TimberHouseModel$Shop", "join", "(II)I"⟩ ∈ abTW := ab_in22 168 rfl rfl
theorem abLM_22_557 : Cond.methodLink "TimberHouseModel" 557 ⟨"TimberHouseModel$Shop", "equal", "(II)Z"⟩ ∈ abTW := ab_in22 184 rfl rfl
theorem abLM_22_560 : Cond.methodLink "TimberHouseModel" 560 ⟨"TimberHouseModel$Shop", "at", "(IIIJ)J"⟩ ∈ abTW := ab_in22 188 rfl rfl
theorem abLM_22_563 : Cond.methodLink "TimberHouseModel" 563 ⟨"TimberHouseModel$Shop", "conflict", "(II)I"⟩ ∈ abTW := ab_in22 219 rfl rfl
theorem abLM_22_566 : Cond.methodLink "TimberHouseModel" 566 ⟨"TimberHouseModel$Shop", "mark", "(I)I"⟩ ∈ abTW := ab_in22 227 rfl rfl
theorem abLM_22_569 : Cond.methodLink "TimberHouseModel" 569 ⟨"TimberHouseModel$Shop", "since", "(IIII)J"⟩ ∈ abTW := ab_in22 231 rfl rfl
theorem abLM_22_573 : Cond.methodLink "TimberHouseModel" 573 ⟨"TimberHouseModel$Shop", "batch", "(IZ)Z"⟩ ∈ abTW := ab_in22 236 rfl rfl
theorem abLM_22_576 : Cond.methodLink "TimberHouseModel" 576 ⟨"TimberHouseModel$Shop", "right", "(IIZ)Z"⟩ ∈ abTW := ab_in23 0 rfl rfl
theorem abLM_22_580 : Cond.methodLink "TimberHouseModel" 580 ⟨"TimberHouseModel$Shop", "seen", "(IIII)J"⟩ ∈ abTW := ab_in23 5 rfl rfl
theorem abLM_22_583 : Cond.methodLink "TimberHouseModel" 583 ⟨"TimberHouseModel$Shop", "entry", "(I)I"⟩ ∈ abTW := ab_in23 9 rfl rfl
theorem abLM_22_586 : Cond.methodLink "TimberHouseModel" 586 ⟨"TimberHouseModel$Shop", "row", "(IIJ)I"⟩ ∈ abTW := ab_in23 18 rfl rfl
theorem abLM_22_589 : Cond.methodLink "TimberHouseModel" 589 ⟨"TimberHouseModel$Shop", "close", "(I)I"⟩ ∈ abTW := ab_in23 32 rfl rfl
theorem abLM_22_592 : Cond.methodLink "TimberHouseModel" 592 ⟨"TimberHouseModel$Shop", "balance", "(II)J"⟩ ∈ abTW := ab_in23 40 rfl rfl
theorem abLM_22_595 : Cond.methodLink "TimberHouseModel" 595 ⟨"TimberHouseModel$Shop", "closeMonth", "(I)Z"⟩ ∈ abTW := ab_in23 44 rfl rfl
theorem abLM_22_598 : Cond.methodLink "TimberHouseModel" 598 ⟨"TimberHouseModel$Shop", "reverse", "(II)I"⟩ ∈ abTW := ab_in23 49 rfl rfl
theorem abLM_22_601 : Cond.methodLink "TimberHouseModel" 601 ⟨"TimberHouseModel", "cutSheets", "()I"⟩ ∈ abTW := ab_in23 65 rfl rfl
theorem abLM_22_646 : Cond.methodLink "TimberHouseModel" 646 ⟨"TimberHouseModel", "fact", "(IJII)I"⟩ ∈ abTW := ab_in23 108 rfl rfl
theorem abLM_a22 : ∀ q ∈ (abLM_l[22]?.getD []), abLM_P 22 q := ab_cn2 abLM_22_15 (ab_cn2 abLM_22_24 (ab_cn2 abLM_22_33 (ab_cn2 abLM_22_40 (ab_cn2 abLM_22_47 (ab_cn2 abLM_22_54 (ab_cn2 abLM_22_61 (ab_cn2 abLM_22_70 (ab_cn2 abLM_22_77 (ab_cn2 abLM_22_84 (ab_cn2 abLM_22_98 (ab_cn2 abLM_22_101 (ab_cn2 abLM_22_103 (ab_cn2 abLM_22_105 (ab_cn2 abLM_22_107 (ab_cn2 abLM_22_109 (ab_cn2 abLM_22_111 (ab_cn2 abLM_22_113 (ab_cn2 abLM_22_115 (ab_cn2 abLM_22_117 (ab_cn2 abLM_22_119 (ab_cn2 abLM_22_123 (ab_cn2 abLM_22_127 (ab_cn2 abLM_22_131 (ab_cn2 abLM_22_135 (ab_cn2 abLM_22_139 (ab_cn2 abLM_22_143 (ab_cn2 abLM_22_147 (ab_cn2 abLM_22_150 (ab_cn2 abLM_22_154 (ab_cn2 abLM_22_158 (ab_cn2 abLM_22_161 (ab_cn2 abLM_22_164 (ab_cn2 abLM_22_168 (ab_cn2 abLM_22_172 (ab_cn2 abLM_22_175 (ab_cn2 abLM_22_179 (ab_cn2 abLM_22_180 (ab_cn2 abLM_22_184 (ab_cn2 abLM_22_187 (ab_cn2 abLM_22_190 (ab_cn2 abLM_22_193 (ab_cn2 abLM_22_196 (ab_cn2 abLM_22_199 (ab_cn2 abLM_22_201 (ab_cn2 abLM_22_203 (ab_cn2 abLM_22_206 (ab_cn2 abLM_22_209 (ab_cn2 abLM_22_212 (ab_cn2 abLM_22_215 (ab_cn2 abLM_22_219 (ab_cn2 abLM_22_222 (ab_cn2 abLM_22_225 (ab_cn2 abLM_22_229 (ab_cn2 abLM_22_231 (ab_cn2 abLM_22_232 (ab_cn2 abLM_22_236 (ab_cn2 abLM_22_239 (ab_cn2 abLM_22_243 (ab_cn2 abLM_22_244 (ab_cn2 abLM_22_247 (ab_cn2 abLM_22_250 (ab_cn2 abLM_22_253 (ab_cn2 abLM_22_256 (ab_cn2 abLM_22_259 (ab_cn2 abLM_22_262 (ab_cn2 abLM_22_267 (ab_cn2 abLM_22_271 (ab_cn2 abLM_22_274 (ab_cn2 abLM_22_277 (ab_cn2 abLM_22_280 (ab_cn2 abLM_22_281 (ab_cn2 abLM_22_284 (ab_cn2 abLM_22_288 (ab_cn2 abLM_22_291 (ab_cn2 abLM_22_294 (ab_cn2 abLM_22_297 (ab_cn2 abLM_22_300 (ab_cn2 abLM_22_304 (ab_cn2 abLM_22_307 (ab_cn2 abLM_22_310 (ab_cn2 abLM_22_314 (ab_cn2 abLM_22_317 (ab_cn2 abLM_22_321 (ab_cn2 abLM_22_324 (ab_cn2 abLM_22_327 (ab_cn2 abLM_22_330 (ab_cn2 abLM_22_333 (ab_cn2 abLM_22_337 (ab_cn2 abLM_22_340 (ab_cn2 abLM_22_343 (ab_cn2 abLM_22_346 (ab_cn2 abLM_22_349 (ab_cn2 abLM_22_352 (ab_cn2 abLM_22_355 (ab_cn2 abLM_22_358 (ab_cn2 abLM_22_361 (ab_cn2 abLM_22_362 (ab_cn2 abLM_22_365 (ab_cn2 abLM_22_368 (ab_cn2 abLM_22_371 (ab_cn2 abLM_22_375 (ab_cn2 abLM_22_379 (ab_cn2 abLM_22_383 (ab_cn2 abLM_22_386 (ab_cn2 abLM_22_387 (ab_cn2 abLM_22_390 (ab_cn2 abLM_22_393 (ab_cn2 abLM_22_396 (ab_cn2 abLM_22_399 (ab_cn2 abLM_22_402 (ab_cn2 abLM_22_406 (ab_cn2 abLM_22_409 (ab_cn2 abLM_22_412 (ab_cn2 abLM_22_415 (ab_cn2 abLM_22_416 (ab_cn2 abLM_22_420 (ab_cn2 abLM_22_422 (ab_cn2 abLM_22_424 (ab_cn2 abLM_22_425 (ab_cn2 abLM_22_427 (ab_cn2 abLM_22_429 (ab_cn2 abLM_22_432 (ab_cn2 abLM_22_434 (ab_cn2 abLM_22_436 (ab_cn2 abLM_22_438 (ab_cn2 abLM_22_442 (ab_cn2 abLM_22_443 (ab_cn2 abLM_22_447 (ab_cn2 abLM_22_449 (ab_cn2 abLM_22_450 (ab_cn2 abLM_22_451 (ab_cn2 abLM_22_452 (ab_cn2 abLM_22_454 (ab_cn2 abLM_22_456 (ab_cn2 abLM_22_459 (ab_cn2 abLM_22_461 (ab_cn2 abLM_22_464 (ab_cn2 abLM_22_467 (ab_cn2 abLM_22_470 (ab_cn2 abLM_22_471 (ab_cn2 abLM_22_474 (ab_cn2 abLM_22_477 (ab_cn2 abLM_22_480 (ab_cn2 abLM_22_483 (ab_cn2 abLM_22_485 (ab_cn2 abLM_22_488 (ab_cn2 abLM_22_489 (ab_cn2 abLM_22_490 (ab_cn2 abLM_22_492 (ab_cn2 abLM_22_495 (ab_cn2 abLM_22_498 (ab_cn2 abLM_22_501 (ab_cn2 abLM_22_503 (ab_cn2 abLM_22_504 (ab_cn2 abLM_22_505 (ab_cn2 abLM_22_506 (ab_cn2 abLM_22_509 (ab_cn2 abLM_22_512 (ab_cn2 abLM_22_513 (ab_cn2 abLM_22_516 (ab_cn2 abLM_22_518 (ab_cn2 abLM_22_521 (ab_cn2 abLM_22_524 (ab_cn2 abLM_22_527 (ab_cn2 abLM_22_530 (ab_cn2 abLM_22_533 (ab_cn2 abLM_22_536 (ab_cn2 abLM_22_539 (ab_cn2 abLM_22_541 (ab_cn2 abLM_22_544 (ab_cn2 abLM_22_547 (ab_cn2 abLM_22_551 (ab_cn2 abLM_22_552 (ab_cn2 abLM_22_554 (ab_cn2 abLM_22_557 (ab_cn2 abLM_22_560 (ab_cn2 abLM_22_563 (ab_cn2 abLM_22_566 (ab_cn2 abLM_22_569 (ab_cn2 abLM_22_573 (ab_cn2 abLM_22_576 (ab_cn2 abLM_22_580 (ab_cn2 abLM_22_583 (ab_cn2 abLM_22_586 (ab_cn2 abLM_22_589 (ab_cn2 abLM_22_592 (ab_cn2 abLM_22_595 (ab_cn2 abLM_22_598 (ab_cn2 abLM_22_601 (ab_cn2 abLM_22_646 ab_nl))))))))))))))))))))))))))))))))))))))))))))))))))))))))))))))))))))))))))))))))))))))))))))))))))))))))))))))))))))))))))))))))))))))))))))))))))))))))))))))))))))))))))))))))))))))))))))))
theorem abLM_23_7 : Cond.methodLink "TimberHouseLaw" 7 ⟨"TimberHouse", "act", "(IIIIIII)J"⟩ ∈ abTW := ab_in5 211 rfl rfl
theorem abLM_23_19 : Cond.methodLink "TimberHouseLaw" 19 ⟨"TimberHouse", "<init>", "()V"⟩ ∈ abTW := ab_in1 39 rfl rfl
theorem abLM_23_22 : Cond.methodLink "TimberHouseLaw" 22 ⟨"TimberHouseModel", "<init>", "()V"⟩ ∈ abTW := ab_in12 97 rfl rfl
theorem abLM_23_23 : Cond.methodLink "TimberHouseLaw" 23 ⟨"TimberHouseLaw", "act", "(LTimberHouse;IIIIIII[J)I"⟩ ∈ abTW := ab_in5 205 rfl rfl
theorem abLM_23_28 : Cond.methodLink "TimberHouseLaw" 28 ⟨"TimberHouseModel", "act", "(IIIIIII)J"⟩ ∈ abTW := ab_in16 174 rfl rfl
theorem abLM_23_29 : Cond.methodLink "TimberHouseLaw" 29 ⟨"TimberHouseModel", "thrown", "()I"⟩ ∈ abTW := ab_in16 170 rfl rfl
theorem abLM_23_33 : Cond.methodLink "TimberHouseLaw" 33 ⟨"TimberHouse", "rip", "(II)I"⟩ ∈ abTW := ab_in4 76 rfl rfl
theorem abLM_23_37 : Cond.methodLink "TimberHouseLaw" 37 ⟨"TimberHouseModel", "rip", "(II)I"⟩ ∈ abTW := ab_in23 53 rfl rfl
theorem abLM_23_38 : Cond.methodLink "TimberHouseLaw" 38 ⟨"TimberHouse", "fingers", "(I)I"⟩ ∈ abTW := ab_in4 113 rfl rfl
theorem abLM_23_42 : Cond.methodLink "TimberHouseLaw" 42 ⟨"TimberHouseModel", "fingers", "(I)I"⟩ ∈ abTW := ab_in23 57 rfl rfl
theorem abLM_23_43 : Cond.methodLink "TimberHouseLaw" 43 ⟨"TimberHouse", "hours", "(II)I"⟩ ∈ abTW := ab_in4 142 rfl rfl
theorem abLM_23_46 : Cond.methodLink "TimberHouseLaw" 46 ⟨"TimberHouseModel", "hours", "(II)I"⟩ ∈ abTW := ab_in23 61 rfl rfl
theorem abLM_23_47 : Cond.methodLink "TimberHouseLaw" 47 ⟨"TimberHouse", "passes", "(IIII)I"⟩ ∈ abTW := ab_in4 182 rfl rfl
theorem abLM_23_51 : Cond.methodLink "TimberHouseLaw" 51 ⟨"TimberHouseModel", "passes", "(IIII)I"⟩ ∈ abTW := ab_in23 73 rfl rfl
theorem abLM_23_52 : Cond.methodLink "TimberHouseLaw" 52 ⟨"TimberHouse", "route", "(II)I"⟩ ∈ abTW := ab_in4 217 rfl rfl
theorem abLM_23_55 : Cond.methodLink "TimberHouseLaw" 55 ⟨"TimberHouseModel", "route", "(II)I"⟩ ∈ abTW := ab_in23 77 rfl rfl
theorem abLM_23_56 : Cond.methodLink "TimberHouseLaw" 56 ⟨"TimberHouse", "facts", "()I"⟩ ∈ abTW := ab_in5 72 rfl rfl
theorem abLM_23_59 : Cond.methodLink "TimberHouseLaw" 59 ⟨"TimberHouseModel", "facts", "()I"⟩ ∈ abTW := ab_in23 104 rfl rfl
theorem abLM_23_60 : Cond.methodLink "TimberHouseLaw" 60 ⟨"TimberHouse", "book", "(II)I"⟩ ∈ abTW := ab_in5 138 rfl rfl
theorem abLM_23_63 : Cond.methodLink "TimberHouseLaw" 63 ⟨"TimberHouseModel", "book", "(II)I"⟩ ∈ abTW := ab_in23 114 rfl rfl
theorem abLM_23_64 : Cond.methodLink "TimberHouseLaw" 64 ⟨"TimberHouse", "stock", "(I)I"⟩ ∈ abTW := ab_in5 181 rfl rfl
theorem abLM_23_67 : Cond.methodLink "TimberHouseLaw" 67 ⟨"TimberHouseModel", "stock", "(I)I"⟩ ∈ abTW := ab_in23 120 rfl rfl
theorem abLM_23_68 : Cond.methodLink "TimberHouseLaw" 68 ⟨"TimberHouse", "whole", "(I)I"⟩ ∈ abTW := ab_in5 197 rfl rfl
theorem abLM_23_71 : Cond.methodLink "TimberHouseLaw" 71 ⟨"TimberHouseModel", "whole", "(I)I"⟩ ∈ abTW := ab_in23 124 rfl rfl
theorem abLM_a23 : ∀ q ∈ (abLM_l[23]?.getD []), abLM_P 23 q := ab_cn2 abLM_23_7 (ab_cn2 abLM_23_19 (ab_cn2 abLM_23_22 (ab_cn2 abLM_23_23 (ab_cn2 abLM_23_28 (ab_cn2 abLM_23_29 (ab_cn2 abLM_23_33 (ab_cn2 abLM_23_37 (ab_cn2 abLM_23_38 (ab_cn2 abLM_23_42 (ab_cn2 abLM_23_43 (ab_cn2 abLM_23_46 (ab_cn2 abLM_23_47 (ab_cn2 abLM_23_51 (ab_cn2 abLM_23_52 (ab_cn2 abLM_23_55 (ab_cn2 abLM_23_56 (ab_cn2 abLM_23_59 (ab_cn2 abLM_23_60 (ab_cn2 abLM_23_63 (ab_cn2 abLM_23_64 (ab_cn2 abLM_23_67 (ab_cn2 abLM_23_68 (ab_cn2 abLM_23_71 ab_nl)))))))))))))))))))))))
theorem abLM_a24 : ∀ q ∈ (abLM_l[24]?.getD []), abLM_P 24 q := ab_nl
theorem abLM_ok : ∀ o, ∀ q ∈ abLM o, abLM_P o q := ab_fam (P := abLM_P) (L := abLM_l) (And.intro abLM_a0 (And.intro abLM_a1 (And.intro abLM_a2 (And.intro abLM_a3 (And.intro abLM_a4 (And.intro abLM_a5 (And.intro abLM_a6 (And.intro abLM_a7 (And.intro abLM_a8 (And.intro abLM_a9 (And.intro abLM_a10 (And.intro abLM_a11 (And.intro abLM_a12 (And.intro abLM_a13 (And.intro abLM_a14 (And.intro abLM_a15 (And.intro abLM_a16 (And.intro abLM_a17 (And.intro abLM_a18 (And.intro abLM_a19 (And.intro abLM_a20 (And.intro abLM_a21 (And.intro abLM_a22 (And.intro abLM_a23 (And.intro abLM_a24 (trivial))))))))))))))))))))))))))
def abNL : List (String × Nat × MethodName × String) := [("TimberHouse$Fingers", 50, ⟨"TimberHouse", "nearest", "(III)I"⟩, "TimberHouse"), ("TimberHouse$Fingers", 58, ⟨"TimberHouse", "up", "(JJ)J"⟩, "TimberHouse"), ("TimberHouse$Fingers", 138, ⟨"TimberHouse", "down", "(JJ)J"⟩, "TimberHouse"), ("TimberHouse$Fingers", 143, ⟨"TimberHouse", "within", "(III)Z"⟩, "TimberHouse"), ("TimberHouse$Fingers", 150, ⟨"TimberHouse", "refuse", "(I)V"⟩, "TimberHouse"), ("TimberHouse$Fingers", 159, ⟨"TimberHouse", "needNumber", "(Z)V"⟩, "TimberHouse"), ("TimberHouse$Fingers", 185, ⟨"TimberHouse", "needState", "(Z)V"⟩, "TimberHouse"), ("TimberHouse$Fingers", 188, ⟨"TimberHouse", "needThing", "(Z)V"⟩, "TimberHouse"), ("TimberHouse$Nails", 69, ⟨"TimberHouse", "truth", "(Z)I"⟩, "TimberHouse"), ("TimberHouse$Nails", 184, ⟨"TimberHouse", "within", "(III)Z"⟩, "TimberHouse"), ("TimberHouse$Nails", 188, ⟨"TimberHouse", "needThing", "(Z)V"⟩, "TimberHouse"), ("TimberHouse$Nails", 192, ⟨"TimberHouse", "needNumber", "(Z)V"⟩, "TimberHouse"), ("TimberHouse$Nails", 221, ⟨"TimberHouse", "down", "(JJ)J"⟩, "TimberHouse"), ("TimberHouse$Nails", 225, ⟨"TimberHouse", "needState", "(Z)V"⟩, "TimberHouse"), ("TimberHouse$Plans", 120, ⟨"TimberHouse", "within", "(III)Z"⟩, "TimberHouse"), ("TimberHouse$Plans", 124, ⟨"TimberHouse", "needNumber", "(Z)V"⟩, "TimberHouse"), ("TimberHouse$Plans", 128, ⟨"TimberHouse", "needState", "(Z)V"⟩, "TimberHouse"), ("TimberHouse$Plans", 131, ⟨"TimberHouse", "needThing", "(Z)V"⟩, "TimberHouse"), ("TimberHouse$Plans", 141, ⟨"TimberHouse", "refuse", "(I)V"⟩, "TimberHouse"), ("TimberHouse$Prices", 103, ⟨"TimberHouse", "truth", "(Z)I"⟩, "TimberHouse"), ("TimberHouse$Prices", 195, ⟨"TimberHouse", "within", "(III)Z"⟩, "TimberHouse"), ("TimberHouse$Prices", 202, ⟨"TimberHouse", "needThing", "(Z)V"⟩, "TimberHouse"), ("TimberHouse$Prices", 208, ⟨"TimberHouse", "needNumber", "(Z)V"⟩, "TimberHouse"), ("TimberHouse$Prices", 218, ⟨"TimberHouse", "needState", "(Z)V"⟩, "TimberHouse"), ("TimberHouse$Prices", 225, ⟨"TimberHouse", "down", "(JJ)J"⟩, "TimberHouse"), ("TimberHouse$Prices", 235, ⟨"TimberHouse", "refuse", "(I)V"⟩, "TimberHouse"), ("TimberHouse$Rips", 50, ⟨"TimberHouse", "nearest", "(III)I"⟩, "TimberHouse"), ("TimberHouse$Rips", 60, ⟨"TimberHouse", "down", "(JJ)J"⟩, "TimberHouse"), ("TimberHouse$Rips", 163, ⟨"TimberHouse", "within", "(III)Z"⟩, "TimberHouse"), ("TimberHouse$Rips", 167, ⟨"TimberHouse", "needThing", "(Z)V"⟩, "TimberHouse"), ("TimberHouse$Rips", 171, ⟨"TimberHouse", "needState", "(Z)V"⟩, "TimberHouse"), ("TimberHouse$Rips", 175, ⟨"TimberHouse", "needNumber", "(Z)V"⟩, "TimberHouse"), ("TimberHouse$Rips", 179, ⟨"TimberHouse", "up", "(JJ)J"⟩, "TimberHouse"), ("TimberHouse$Rips", 248, ⟨"TimberHouse", "truth", "(Z)I"⟩, "TimberHouse"), ("TimberHouse$Router", 56, ⟨"TimberHouse", "nearest", "(III)I"⟩, "TimberHouse"), ("TimberHouse$Router", 95, ⟨"TimberHouse", "truth", "(Z)I"⟩, "TimberHouse"), ("TimberHouse$Router", 130, ⟨"TimberHouse", "needThing", "(Z)V"⟩, "TimberHouse"), ("TimberHouse$Router", 134, ⟨"TimberHouse", "within", "(III)Z"⟩, "TimberHouse"), ("TimberHouse$Router", 138, ⟨"TimberHouse", "needNumber", "(Z)V"⟩, "TimberHouse"), ("TimberHouse$Router", 178, ⟨"TimberHouse", "needState", "(Z)V"⟩, "TimberHouse"), ("TimberHouse$Saw", 52, ⟨"TimberHouse", "nearest", "(III)I"⟩, "TimberHouse"), ("TimberHouse$Saw", 113, ⟨"TimberHouse", "within", "(III)Z"⟩, "TimberHouse"), ("TimberHouse$Saw", 121, ⟨"TimberHouse", "needThing", "(Z)V"⟩, "TimberHouse"), ("TimberHouse$Saw", 125, ⟨"TimberHouse", "needNumber", "(Z)V"⟩, "TimberHouse"), ("TimberHouse$Saw", 129, ⟨"TimberHouse", "needState", "(Z)V"⟩, "TimberHouse"), ("TimberHouse$Saw", 166, ⟨"TimberHouse", "up", "(JJ)J"⟩, "TimberHouse"), ("TimberHouse$Saw", 174, ⟨"TimberHouse", "truth", "(Z)I"⟩, "TimberHouse"), ("TimberHouse$Sheets", 51, ⟨"TimberHouse", "nearest", "(III)I"⟩, "TimberHouse"), ("TimberHouse$Sheets", 122, ⟨"TimberHouse", "within", "(III)Z"⟩, "TimberHouse"), ("TimberHouse$Sheets", 130, ⟨"TimberHouse", "needNumber", "(Z)V"⟩, "TimberHouse"), ("TimberHouse$Sheets", 134, ⟨"TimberHouse", "needState", "(Z)V"⟩, "TimberHouse"), ("TimberHouse$Sheets", 137, ⟨"TimberHouse", "truth", "(Z)I"⟩, "TimberHouse"), ("TimberHouse$Sheets", 141, ⟨"TimberHouse", "needThing", "(Z)V"⟩, "TimberHouse"), ("TimberHouse$Sheets", 157, ⟨"TimberHouse", "up", "(JJ)J"⟩, "TimberHouse"), ("TimberHouse$Shop", 126, ⟨"TimberHouse", "needThing", "(Z)V"⟩, "TimberHouse"), ("TimberHouse$Shop", 133, ⟨"TimberHouse", "needNumber", "(Z)V"⟩, "TimberHouse"), ("TimberHouse$Shop", 144, ⟨"TimberHouse", "needState", "(Z)V"⟩, "TimberHouse"), ("TimberHouse$Shop", 167, ⟨"TimberHouse", "within", "(III)Z"⟩, "TimberHouse"), ("TimberHouse$Shop", 198, ⟨"TimberHouse", "refuse", "(I)V"⟩, "TimberHouse"), ("TimberHouse$Text", 28, ⟨"TimberHouse", "within", "(III)Z"⟩, "TimberHouse"), ("TimberHouse$Turned", 158, ⟨"TimberHouse", "within", "(III)Z"⟩, "TimberHouse"), ("TimberHouse$Turned", 162, ⟨"TimberHouse", "needNumber", "(Z)V"⟩, "TimberHouse"), ("TimberHouse$Turned", 175, ⟨"TimberHouse", "needState", "(Z)V"⟩, "TimberHouse"), ("TimberHouse$Turned", 201, ⟨"TimberHouse", "needThing", "(Z)V"⟩, "TimberHouse"), ("TimberHouse$Turned", 246, ⟨"TimberHouse", "fraction", "(JJI)J"⟩, "TimberHouse")]
def abDL : List MethodName := [⟨"java/lang/RuntimeException", "<init>", "()V"⟩, ⟨"java/lang/Exception", "<init>", "()V"⟩, ⟨"java/lang/Throwable", "<init>", "()V"⟩]
def abNW : List Cond := abNL.map (fun q => Cond.methodLinkNest q.1 q.2.1 q.2.2.1 q.2.2.2) ++ ([Cond.castable (abEN 0) (abEN 0), Cond.castable (abEN 1) (abEN 1), Cond.castable (abEN 2) (abEN 2)] ++ abDL.map Cond.declares)
def abLX_l : List (List (Nat × Nat)) := [[(50, 11), (58, 23), (138, 5), (143, 25), (150, 16), (159, 12), (185, 13), (188, 14)], [(69, 22), (184, 25), (188, 14), (192, 12), (221, 5), (225, 13)], [(120, 25), (124, 12), (128, 13), (131, 14), (141, 16)], [(103, 22), (195, 25), (202, 14), (208, 12), (218, 13), (225, 5), (235, 16)], [(50, 11), (60, 5), (163, 25), (167, 14), (171, 13), (175, 12), (179, 23), (248, 22)], [(56, 11), (95, 22), (130, 14), (134, 25), (138, 12), (178, 13)], [(52, 11), (113, 25), (121, 14), (125, 12), (129, 13), (166, 23), (174, 22)], [(51, 11), (122, 25), (130, 12), (134, 13), (137, 22), (141, 14), (157, 23)], [(126, 14), (133, 12), (144, 13), (167, 25), (198, 16)], [(28, 25)], [(158, 25), (162, 12), (175, 13), (201, 14), (246, 8)], [], [], [], [], [], [], [], [], [], [], [], [], [], []]
noncomputable def abLX (o : Nat) : List (Nat × Nat) := ab_row abLX_l o
theorem ab_nxt {i : Nat} {y : MethodName} {c host : String} (j : Nat) (h : abNL[j]? = some (c, i, y, host)) : ∃ host, Cond.methodLinkNest c i y host ∈ abNW := ⟨host, List.mem_append_left _ (List.mem_map.mpr ⟨_, List.mem_of_getElem? h, rfl⟩)⟩
def abLX_P (o : Nat) (q : Nat × Nat) : Prop := ∃ host, Cond.methodLinkNest (abCS o) q.1 (abY q.2) host ∈ abNW
theorem abLX_0_50 : ∃ host, Cond.methodLinkNest "TimberHouse$Fingers" 50 ⟨"TimberHouse", "nearest", "(III)I"⟩ host ∈ abNW := ab_nxt 0 rfl
theorem abLX_0_58 : ∃ host, Cond.methodLinkNest "TimberHouse$Fingers" 58 ⟨"TimberHouse", "up", "(JJ)J"⟩ host ∈ abNW := ab_nxt 1 rfl
theorem abLX_0_138 : ∃ host, Cond.methodLinkNest "TimberHouse$Fingers" 138 ⟨"TimberHouse", "down", "(JJ)J"⟩ host ∈ abNW := ab_nxt 2 rfl
theorem abLX_0_143 : ∃ host, Cond.methodLinkNest "TimberHouse$Fingers" 143 ⟨"TimberHouse", "within", "(III)Z"⟩ host ∈ abNW := ab_nxt 3 rfl
theorem abLX_0_150 : ∃ host, Cond.methodLinkNest "TimberHouse$Fingers" 150 ⟨"TimberHouse", "refuse", "(I)V"⟩ host ∈ abNW := ab_nxt 4 rfl
theorem abLX_0_159 : ∃ host, Cond.methodLinkNest "TimberHouse$Fingers" 159 ⟨"TimberHouse", "needNumber", "(Z)V"⟩ host ∈ abNW := ab_nxt 5 rfl
theorem abLX_0_185 : ∃ host, Cond.methodLinkNest "TimberHouse$Fingers" 185 ⟨"TimberHouse", "needState", "(Z)V"⟩ host ∈ abNW := ab_nxt 6 rfl
theorem abLX_0_188 : ∃ host, Cond.methodLinkNest "TimberHouse$Fingers" 188 ⟨"TimberHouse", "needThing", "(Z)V"⟩ host ∈ abNW := ab_nxt 7 rfl
theorem abLX_a0 : ∀ q ∈ (abLX_l[0]?.getD []), abLX_P 0 q := ab_cn2 abLX_0_50 (ab_cn2 abLX_0_58 (ab_cn2 abLX_0_138 (ab_cn2 abLX_0_143 (ab_cn2 abLX_0_150 (ab_cn2 abLX_0_159 (ab_cn2 abLX_0_185 (ab_cn2 abLX_0_188 ab_nl)))))))
theorem abLX_1_69 : ∃ host, Cond.methodLinkNest "TimberHouse$Nails" 69 ⟨"TimberHouse", "truth", "(Z)I"⟩ host ∈ abNW := ab_nxt 8 rfl
theorem abLX_1_184 : ∃ host, Cond.methodLinkNest "TimberHouse$Nails" 184 ⟨"TimberHouse", "within", "(III)Z"⟩ host ∈ abNW := ab_nxt 9 rfl
theorem abLX_1_188 : ∃ host, Cond.methodLinkNest "TimberHouse$Nails" 188 ⟨"TimberHouse", "needThing", "(Z)V"⟩ host ∈ abNW := ab_nxt 10 rfl
theorem abLX_1_192 : ∃ host, Cond.methodLinkNest "TimberHouse$Nails" 192 ⟨"TimberHouse", "needNumber", "(Z)V"⟩ host ∈ abNW := ab_nxt 11 rfl
theorem abLX_1_221 : ∃ host, Cond.methodLinkNest "TimberHouse$Nails" 221 ⟨"TimberHouse", "down", "(JJ)J"⟩ host ∈ abNW := ab_nxt 12 rfl
theorem abLX_1_225 : ∃ host, Cond.methodLinkNest "TimberHouse$Nails" 225 ⟨"TimberHouse", "needState", "(Z)V"⟩ host ∈ abNW := ab_nxt 13 rfl
theorem abLX_a1 : ∀ q ∈ (abLX_l[1]?.getD []), abLX_P 1 q := ab_cn2 abLX_1_69 (ab_cn2 abLX_1_184 (ab_cn2 abLX_1_188 (ab_cn2 abLX_1_192 (ab_cn2 abLX_1_221 (ab_cn2 abLX_1_225 ab_nl)))))
theorem abLX_2_120 : ∃ host, Cond.methodLinkNest "TimberHouse$Plans" 120 ⟨"TimberHouse", "within", "(III)Z"⟩ host ∈ abNW := ab_nxt 14 rfl
theorem abLX_2_124 : ∃ host, Cond.methodLinkNest "TimberHouse$Plans" 124 ⟨"TimberHouse", "needNumber", "(Z)V"⟩ host ∈ abNW := ab_nxt 15 rfl
theorem abLX_2_128 : ∃ host, Cond.methodLinkNest "TimberHouse$Plans" 128 ⟨"TimberHouse", "needState", "(Z)V"⟩ host ∈ abNW := ab_nxt 16 rfl
theorem abLX_2_131 : ∃ host, Cond.methodLinkNest "TimberHouse$Plans" 131 ⟨"TimberHouse", "needThing", "(Z)V"⟩ host ∈ abNW := ab_nxt 17 rfl
theorem abLX_2_141 : ∃ host, Cond.methodLinkNest "TimberHouse$Plans" 141 ⟨"TimberHouse", "refuse", "(I)V"⟩ host ∈ abNW := ab_nxt 18 rfl
theorem abLX_a2 : ∀ q ∈ (abLX_l[2]?.getD []), abLX_P 2 q := ab_cn2 abLX_2_120 (ab_cn2 abLX_2_124 (ab_cn2 abLX_2_128 (ab_cn2 abLX_2_131 (ab_cn2 abLX_2_141 ab_nl))))
theorem abLX_3_103 : ∃ host, Cond.methodLinkNest "TimberHouse$Prices" 103 ⟨"TimberHouse", "truth", "(Z)I"⟩ host ∈ abNW := ab_nxt 19 rfl
theorem abLX_3_195 : ∃ host, Cond.methodLinkNest "TimberHouse$Prices" 195 ⟨"TimberHouse", "within", "(III)Z"⟩ host ∈ abNW := ab_nxt 20 rfl
theorem abLX_3_202 : ∃ host, Cond.methodLinkNest "TimberHouse$Prices" 202 ⟨"TimberHouse", "needThing", "(Z)V"⟩ host ∈ abNW := ab_nxt 21 rfl
theorem abLX_3_208 : ∃ host, Cond.methodLinkNest "TimberHouse$Prices" 208 ⟨"TimberHouse", "needNumber", "(Z)V"⟩ host ∈ abNW := ab_nxt 22 rfl
theorem abLX_3_218 : ∃ host, Cond.methodLinkNest "TimberHouse$Prices" 218 ⟨"TimberHouse", "needState", "(Z)V"⟩ host ∈ abNW := ab_nxt 23 rfl
theorem abLX_3_225 : ∃ host, Cond.methodLinkNest "TimberHouse$Prices" 225 ⟨"TimberHouse", "down", "(JJ)J"⟩ host ∈ abNW := ab_nxt 24 rfl
theorem abLX_3_235 : ∃ host, Cond.methodLinkNest "TimberHouse$Prices" 235 ⟨"TimberHouse", "refuse", "(I)V"⟩ host ∈ abNW := ab_nxt 25 rfl
theorem abLX_a3 : ∀ q ∈ (abLX_l[3]?.getD []), abLX_P 3 q := ab_cn2 abLX_3_103 (ab_cn2 abLX_3_195 (ab_cn2 abLX_3_202 (ab_cn2 abLX_3_208 (ab_cn2 abLX_3_218 (ab_cn2 abLX_3_225 (ab_cn2 abLX_3_235 ab_nl))))))
theorem abLX_4_50 : ∃ host, Cond.methodLinkNest "TimberHouse$Rips" 50 ⟨"TimberHouse", "nearest", "(III)I"⟩ host ∈ abNW := ab_nxt 26 rfl
theorem abLX_4_60 : ∃ host, Cond.methodLinkNest "TimberHouse$Rips" 60 ⟨"TimberHouse", "down", "(JJ)J"⟩ host ∈ abNW := ab_nxt 27 rfl
theorem abLX_4_163 : ∃ host, Cond.methodLinkNest "TimberHouse$Rips" 163 ⟨"TimberHouse", "within", "(III)Z"⟩ host ∈ abNW := ab_nxt 28 rfl
theorem abLX_4_167 : ∃ host, Cond.methodLinkNest "TimberHouse$Rips" 167 ⟨"TimberHouse", "needThing", "(Z)V"⟩ host ∈ abNW := ab_nxt 29 rfl
theorem abLX_4_171 : ∃ host, Cond.methodLinkNest "TimberHouse$Rips" 171 ⟨"TimberHouse", "needState", "(Z)V"⟩ host ∈ abNW := ab_nxt 30 rfl
theorem abLX_4_175 : ∃ host, Cond.methodLinkNest "TimberHouse$Rips" 175 ⟨"TimberHouse", "needNumber", "(Z)V"⟩ host ∈ abNW := ab_nxt 31 rfl
theorem abLX_4_179 : ∃ host, Cond.methodLinkNest "TimberHouse$Rips" 179 ⟨"TimberHouse", "up", "(JJ)J"⟩ host ∈ abNW := ab_nxt 32 rfl
theorem abLX_4_248 : ∃ host, Cond.methodLinkNest "TimberHouse$Rips" 248 ⟨"TimberHouse", "truth", "(Z)I"⟩ host ∈ abNW := ab_nxt 33 rfl
theorem abLX_a4 : ∀ q ∈ (abLX_l[4]?.getD []), abLX_P 4 q := ab_cn2 abLX_4_50 (ab_cn2 abLX_4_60 (ab_cn2 abLX_4_163 (ab_cn2 abLX_4_167 (ab_cn2 abLX_4_171 (ab_cn2 abLX_4_175 (ab_cn2 abLX_4_179 (ab_cn2 abLX_4_248 ab_nl)))))))
theorem abLX_5_56 : ∃ host, Cond.methodLinkNest "TimberHouse$Router" 56 ⟨"TimberHouse", "nearest", "(III)I"⟩ host ∈ abNW := ab_nxt 34 rfl
theorem abLX_5_95 : ∃ host, Cond.methodLinkNest "TimberHouse$Router" 95 ⟨"TimberHouse", "truth", "(Z)I"⟩ host ∈ abNW := ab_nxt 35 rfl
theorem abLX_5_130 : ∃ host, Cond.methodLinkNest "TimberHouse$Router" 130 ⟨"TimberHouse", "needThing", "(Z)V"⟩ host ∈ abNW := ab_nxt 36 rfl
theorem abLX_5_134 : ∃ host, Cond.methodLinkNest "TimberHouse$Router" 134 ⟨"TimberHouse", "within", "(III)Z"⟩ host ∈ abNW := ab_nxt 37 rfl
theorem abLX_5_138 : ∃ host, Cond.methodLinkNest "TimberHouse$Router" 138 ⟨"TimberHouse", "needNumber", "(Z)V"⟩ host ∈ abNW := ab_nxt 38 rfl
theorem abLX_5_178 : ∃ host, Cond.methodLinkNest "TimberHouse$Router" 178 ⟨"TimberHouse", "needState", "(Z)V"⟩ host ∈ abNW := ab_nxt 39 rfl
theorem abLX_a5 : ∀ q ∈ (abLX_l[5]?.getD []), abLX_P 5 q := ab_cn2 abLX_5_56 (ab_cn2 abLX_5_95 (ab_cn2 abLX_5_130 (ab_cn2 abLX_5_134 (ab_cn2 abLX_5_138 (ab_cn2 abLX_5_178 ab_nl)))))
theorem abLX_6_52 : ∃ host, Cond.methodLinkNest "TimberHouse$Saw" 52 ⟨"TimberHouse", "nearest", "(III)I"⟩ host ∈ abNW := ab_nxt 40 rfl
theorem abLX_6_113 : ∃ host, Cond.methodLinkNest "TimberHouse$Saw" 113 ⟨"TimberHouse", "within", "(III)Z"⟩ host ∈ abNW := ab_nxt 41 rfl
theorem abLX_6_121 : ∃ host, Cond.methodLinkNest "TimberHouse$Saw" 121 ⟨"TimberHouse", "needThing", "(Z)V"⟩ host ∈ abNW := ab_nxt 42 rfl
theorem abLX_6_125 : ∃ host, Cond.methodLinkNest "TimberHouse$Saw" 125 ⟨"TimberHouse", "needNumber", "(Z)V"⟩ host ∈ abNW := ab_nxt 43 rfl
theorem abLX_6_129 : ∃ host, Cond.methodLinkNest "TimberHouse$Saw" 129 ⟨"TimberHouse", "needState", "(Z)V"⟩ host ∈ abNW := ab_nxt 44 rfl
theorem abLX_6_166 : ∃ host, Cond.methodLinkNest "TimberHouse$Saw" 166 ⟨"TimberHouse", "up", "(JJ)J"⟩ host ∈ abNW := ab_nxt 45 rfl
theorem abLX_6_174 : ∃ host, Cond.methodLinkNest "TimberHouse$Saw" 174 ⟨"TimberHouse", "truth", "(Z)I"⟩ host ∈ abNW := ab_nxt 46 rfl
theorem abLX_a6 : ∀ q ∈ (abLX_l[6]?.getD []), abLX_P 6 q := ab_cn2 abLX_6_52 (ab_cn2 abLX_6_113 (ab_cn2 abLX_6_121 (ab_cn2 abLX_6_125 (ab_cn2 abLX_6_129 (ab_cn2 abLX_6_166 (ab_cn2 abLX_6_174 ab_nl))))))
theorem abLX_7_51 : ∃ host, Cond.methodLinkNest "TimberHouse$Sheets" 51 ⟨"TimberHouse", "nearest", "(III)I"⟩ host ∈ abNW := ab_nxt 47 rfl
theorem abLX_7_122 : ∃ host, Cond.methodLinkNest "TimberHouse$Sheets" 122 ⟨"TimberHouse", "within", "(III)Z"⟩ host ∈ abNW := ab_nxt 48 rfl
theorem abLX_7_130 : ∃ host, Cond.methodLinkNest "TimberHouse$Sheets" 130 ⟨"TimberHouse", "needNumber", "(Z)V"⟩ host ∈ abNW := ab_nxt 49 rfl
theorem abLX_7_134 : ∃ host, Cond.methodLinkNest "TimberHouse$Sheets" 134 ⟨"TimberHouse", "needState", "(Z)V"⟩ host ∈ abNW := ab_nxt 50 rfl
theorem abLX_7_137 : ∃ host, Cond.methodLinkNest "TimberHouse$Sheets" 137 ⟨"TimberHouse", "truth", "(Z)I"⟩ host ∈ abNW := ab_nxt 51 rfl
theorem abLX_7_141 : ∃ host, Cond.methodLinkNest "TimberHouse$Sheets" 141 ⟨"TimberHouse", "needThing", "(Z)V"⟩ host ∈ abNW := ab_nxt 52 rfl
theorem abLX_7_157 : ∃ host, Cond.methodLinkNest "TimberHouse$Sheets" 157 ⟨"TimberHouse", "up", "(JJ)J"⟩ host ∈ abNW := ab_nxt 53 rfl
theorem abLX_a7 : ∀ q ∈ (abLX_l[7]?.getD []), abLX_P 7 q := ab_cn2 abLX_7_51 (ab_cn2 abLX_7_122 (ab_cn2 abLX_7_130 (ab_cn2 abLX_7_134 (ab_cn2 abLX_7_137 (ab_cn2 abLX_7_141 (ab_cn2 abLX_7_157 ab_nl))))))
theorem abLX_8_126 : ∃ host, Cond.methodLinkNest "TimberHouse$Shop" 126 ⟨"TimberHouse", "needThing", "(Z)V"⟩ host ∈ abNW := ab_nxt 54 rfl
theorem abLX_8_133 : ∃ host, Cond.methodLinkNest "TimberHouse$Shop" 133 ⟨"TimberHouse", "needNumber", "(Z)V"⟩ host ∈ abNW := ab_nxt 55 rfl
theorem abLX_8_144 : ∃ host, Cond.methodLinkNest "TimberHouse$Shop" 144 ⟨"TimberHouse", "needState", "(Z)V"⟩ host ∈ abNW := ab_nxt 56 rfl
theorem abLX_8_167 : ∃ host, Cond.methodLinkNest "TimberHouse$Shop" 167 ⟨"TimberHouse", "within", "(III)Z"⟩ host ∈ abNW := ab_nxt 57 rfl
theorem abLX_8_198 : ∃ host, Cond.methodLinkNest "TimberHouse$Shop" 198 ⟨"TimberHouse", "refuse", "(I)V"⟩ host ∈ abNW := ab_nxt 58 rfl
theorem abLX_a8 : ∀ q ∈ (abLX_l[8]?.getD []), abLX_P 8 q := ab_cn2 abLX_8_126 (ab_cn2 abLX_8_133 (ab_cn2 abLX_8_144 (ab_cn2 abLX_8_167 (ab_cn2 abLX_8_198 ab_nl))))
theorem abLX_9_28 : ∃ host, Cond.methodLinkNest "TimberHouse$Text" 28 ⟨"TimberHouse", "within", "(III)Z"⟩ host ∈ abNW := ab_nxt 59 rfl
theorem abLX_a9 : ∀ q ∈ (abLX_l[9]?.getD []), abLX_P 9 q := ab_cn2 abLX_9_28 ab_nl
theorem abLX_10_158 : ∃ host, Cond.methodLinkNest "TimberHouse$Turned" 158 ⟨"TimberHouse", "within", "(III)Z"⟩ host ∈ abNW := ab_nxt 60 rfl
theorem abLX_10_162 : ∃ host, Cond.methodLinkNest "TimberHouse$Turned" 162 ⟨"TimberHouse", "needNumber", "(Z)V"⟩ host ∈ abNW := ab_nxt 61 rfl
theorem abLX_10_175 : ∃ host, Cond.methodLinkNest "TimberHouse$Turned" 175 ⟨"TimberHouse", "needState", "(Z)V"⟩ host ∈ abNW := ab_nxt 62 rfl
theorem abLX_10_201 : ∃ host, Cond.methodLinkNest "TimberHouse$Turned" 201 ⟨"TimberHouse", "needThing", "(Z)V"⟩ host ∈ abNW := ab_nxt 63 rfl
theorem abLX_10_246 : ∃ host, Cond.methodLinkNest "TimberHouse$Turned" 246 ⟨"TimberHouse", "fraction", "(JJI)J"⟩ host ∈ abNW := ab_nxt 64 rfl
theorem abLX_a10 : ∀ q ∈ (abLX_l[10]?.getD []), abLX_P 10 q := ab_cn2 abLX_10_158 (ab_cn2 abLX_10_162 (ab_cn2 abLX_10_175 (ab_cn2 abLX_10_201 (ab_cn2 abLX_10_246 ab_nl))))
theorem abLX_a11 : ∀ q ∈ (abLX_l[11]?.getD []), abLX_P 11 q := ab_nl
theorem abLX_a12 : ∀ q ∈ (abLX_l[12]?.getD []), abLX_P 12 q := ab_nl
theorem abLX_a13 : ∀ q ∈ (abLX_l[13]?.getD []), abLX_P 13 q := ab_nl
theorem abLX_a14 : ∀ q ∈ (abLX_l[14]?.getD []), abLX_P 14 q := ab_nl
theorem abLX_a15 : ∀ q ∈ (abLX_l[15]?.getD []), abLX_P 15 q := ab_nl
theorem abLX_a16 : ∀ q ∈ (abLX_l[16]?.getD []), abLX_P 16 q := ab_nl
theorem abLX_a17 : ∀ q ∈ (abLX_l[17]?.getD []), abLX_P 17 q := ab_nl
theorem abLX_a18 : ∀ q ∈ (abLX_l[18]?.getD []), abLX_P 18 q := ab_nl
theorem abLX_a19 : ∀ q ∈ (abLX_l[19]?.getD []), abLX_P 19 q := ab_nl
theorem abLX_a20 : ∀ q ∈ (abLX_l[20]?.getD []), abLX_P 20 q := ab_nl
theorem abLX_a21 : ∀ q ∈ (abLX_l[21]?.getD []), abLX_P 21 q := ab_nl
theorem abLX_a22 : ∀ q ∈ (abLX_l[22]?.getD []), abLX_P 22 q := ab_nl
theorem abLX_a23 : ∀ q ∈ (abLX_l[23]?.getD []), abLX_P 23 q := ab_nl
theorem abLX_a24 : ∀ q ∈ (abLX_l[24]?.getD []), abLX_P 24 q := ab_nl
theorem abLX_ok : ∀ o, ∀ q ∈ abLX o, abLX_P o q := ab_fam (P := abLX_P) (L := abLX_l) (And.intro abLX_a0 (And.intro abLX_a1 (And.intro abLX_a2 (And.intro abLX_a3 (And.intro abLX_a4 (And.intro abLX_a5 (And.intro abLX_a6 (And.intro abLX_a7 (And.intro abLX_a8 (And.intro abLX_a9 (And.intro abLX_a10 (And.intro abLX_a11 (And.intro abLX_a12 (And.intro abLX_a13 (And.intro abLX_a14 (And.intro abLX_a15 (And.intro abLX_a16 (And.intro abLX_a17 (And.intro abLX_a18 (And.intro abLX_a19 (And.intro abLX_a20 (And.intro abLX_a21 (And.intro abLX_a22 (And.intro abLX_a23 (And.intro abLX_a24 (trivial))))))))))))))))))))))))))
def abLJ_l : List (List (Nat × Nat)) := [[(3, 1)], [(3, 1)], [(5, 1)], [(3, 1)], [(5, 1)], [(5, 1)], [(5, 1)], [(5, 1)], [(3, 1)], [(3, 1)], [(5, 1)], [(1, 1)], [(1, 1)], [(1, 1)], [(1, 1)], [(1, 1)], [(1, 1)], [(1, 1)], [(1, 1)], [(1, 1)], [(1, 1)], [(1, 1)], [(1, 1)], [], []]
noncomputable def abLJ (o : Nat) : List (Nat × Nat) := ab_row abLJ_l o
def abLJ_P (o : Nat) (q : Nat × Nat) : Prop := Cond.methodLink (abCS o) q.1 Lib.objectInit ∈ abTW
theorem abLJ_0_3 : Cond.methodLink "TimberHouse$Fingers" 3 Lib.objectInit ∈ abTW := ab_in1 215 rfl rfl
theorem abLJ_a0 : ∀ q ∈ (abLJ_l[0]?.getD []), abLJ_P 0 q := ab_cn2 abLJ_0_3 ab_nl
theorem abLJ_1_3 : Cond.methodLink "TimberHouse$Nails" 3 Lib.objectInit ∈ abTW := ab_in2 119 rfl rfl
theorem abLJ_a1 : ∀ q ∈ (abLJ_l[1]?.getD []), abLJ_P 1 q := ab_cn2 abLJ_1_3 ab_nl
theorem abLJ_2_5 : Cond.methodLink "TimberHouse$Plans" 5 Lib.objectInit ∈ abTW := ab_in3 75 rfl rfl
theorem abLJ_a2 : ∀ q ∈ (abLJ_l[2]?.getD []), abLJ_P 2 q := ab_cn2 abLJ_2_5 ab_nl
theorem abLJ_3_3 : Cond.methodLink "TimberHouse$Prices" 3 Lib.objectInit ∈ abTW := ab_in3 144 rfl rfl
theorem abLJ_a3 : ∀ q ∈ (abLJ_l[3]?.getD []), abLJ_P 3 q := ab_cn2 abLJ_3_3 ab_nl
theorem abLJ_4_5 : Cond.methodLink "TimberHouse$Rips" 5 Lib.objectInit ∈ abTW := ab_in1 112 rfl rfl
theorem abLJ_a4 : ∀ q ∈ (abLJ_l[4]?.getD []), abLJ_P 4 q := ab_cn2 abLJ_4_5 ab_nl
theorem abLJ_5_5 : Cond.methodLink "TimberHouse$Router" 5 Lib.objectInit ∈ abTW := ab_in3 16 rfl rfl
theorem abLJ_a5 : ∀ q ∈ (abLJ_l[5]?.getD []), abLJ_P 5 q := ab_cn2 abLJ_5_5 ab_nl
theorem abLJ_6_5 : Cond.methodLink "TimberHouse$Saw" 5 Lib.objectInit ∈ abTW := ab_in1 50 rfl rfl
theorem abLJ_a6 : ∀ q ∈ (abLJ_l[6]?.getD []), abLJ_P 6 q := ab_cn2 abLJ_6_5 ab_nl
theorem abLJ_7_5 : Cond.methodLink "TimberHouse$Sheets" 5 Lib.objectInit ∈ abTW := ab_in2 186 rfl rfl
theorem abLJ_a7 : ∀ q ∈ (abLJ_l[7]?.getD []), abLJ_P 7 q := ab_cn2 abLJ_7_5 ab_nl
theorem abLJ_8_3 : Cond.methodLink "TimberHouse$Shop" 3 Lib.objectInit ∈ abTW := ab_in3 227 rfl rfl
theorem abLJ_a8 : ∀ q ∈ (abLJ_l[8]?.getD []), abLJ_P 8 q := ab_cn2 abLJ_8_3 ab_nl
theorem abLJ_9_3 : Cond.methodLink "TimberHouse$Text" 3 Lib.objectInit ∈ abTW := ab_in2 125 rfl rfl
theorem abLJ_a9 : ∀ q ∈ (abLJ_l[9]?.getD []), abLJ_P 9 q := ab_cn2 abLJ_9_3 ab_nl
theorem abLJ_10_5 : Cond.methodLink "TimberHouse$Turned" 5 Lib.objectInit ∈ abTW := ab_in2 55 rfl rfl
theorem abLJ_a10 : ∀ q ∈ (abLJ_l[10]?.getD []), abLJ_P 10 q := ab_cn2 abLJ_10_5 ab_nl
theorem abLJ_11_1 : Cond.methodLink "TimberHouse" 1 Lib.objectInit ∈ abTW := ab_in1 42 rfl rfl
theorem abLJ_a11 : ∀ q ∈ (abLJ_l[11]?.getD []), abLJ_P 11 q := ab_cn2 abLJ_11_1 ab_nl
theorem abLJ_12_1 : Cond.methodLink "TimberHouseModel$Fingers" 1 Lib.objectInit ∈ abTW := ab_in13 95 rfl rfl
theorem abLJ_a12 : ∀ q ∈ (abLJ_l[12]?.getD []), abLJ_P 12 q := ab_cn2 abLJ_12_1 ab_nl
theorem abLJ_13_1 : Cond.methodLink "TimberHouseModel$Nails" 1 Lib.objectInit ∈ abTW := ab_in14 59 rfl rfl
theorem abLJ_a13 : ∀ q ∈ (abLJ_l[13]?.getD []), abLJ_P 13 q := ab_cn2 abLJ_13_1 ab_nl
theorem abLJ_14_1 : Cond.methodLink "TimberHouseModel$Plans" 1 Lib.objectInit ∈ abTW := ab_in15 73 rfl rfl
theorem abLJ_a14 : ∀ q ∈ (abLJ_l[14]?.getD []), abLJ_P 14 q := ab_cn2 abLJ_14_1 ab_nl
theorem abLJ_15_1 : Cond.methodLink "TimberHouseModel$Prices" 1 Lib.objectInit ∈ abTW := ab_in15 182 rfl rfl
theorem abLJ_a15 : ∀ q ∈ (abLJ_l[15]?.getD []), abLJ_P 15 q := ab_cn2 abLJ_15_1 ab_nl
theorem abLJ_16_1 : Cond.methodLink "TimberHouseModel$Rips" 1 Lib.objectInit ∈ abTW := ab_in12 180 rfl rfl
theorem abLJ_a16 : ∀ q ∈ (abLJ_l[16]?.getD []), abLJ_P 16 q := ab_cn2 abLJ_16_1 ab_nl
theorem abLJ_17_1 : Cond.methodLink "TimberHouseModel$Router" 1 Lib.objectInit ∈ abTW := ab_in14 237 rfl rfl
theorem abLJ_a17 : ∀ q ∈ (abLJ_l[17]?.getD []), abLJ_P 17 q := ab_cn2 abLJ_17_1 ab_nl
theorem abLJ_18_1 : Cond.methodLink "TimberHouseModel$Saw" 1 Lib.objectInit ∈ abTW := ab_in12 106 rfl rfl
theorem abLJ_a18 : ∀ q ∈ (abLJ_l[18]?.getD []), abLJ_P 18 q := ab_cn2 abLJ_18_1 ab_nl
theorem abLJ_19_1 : Cond.methodLink "TimberHouseModel$Sheets" 1 Lib.objectInit ∈ abTW := ab_in14 128 rfl rfl
theorem abLJ_a19 : ∀ q ∈ (abLJ_l[19]?.getD []), abLJ_P 19 q := ab_cn2 abLJ_19_1 ab_nl
theorem abLJ_20_1 : Cond.methodLink "TimberHouseModel$Shop" 1 Lib.objectInit ∈ abTW := ab_in16 53 rfl rfl
theorem abLJ_a20 : ∀ q ∈ (abLJ_l[20]?.getD []), abLJ_P 20 q := ab_cn2 abLJ_20_1 ab_nl
theorem abLJ_21_1 : Cond.methodLink "TimberHouseModel$Turned" 1 Lib.objectInit ∈ abTW := ab_in13 214 rfl rfl
theorem abLJ_a21 : ∀ q ∈ (abLJ_l[21]?.getD []), abLJ_P 21 q := ab_cn2 abLJ_21_1 ab_nl
theorem abLJ_22_1 : Cond.methodLink "TimberHouseModel" 1 Lib.objectInit ∈ abTW := ab_in12 100 rfl rfl
theorem abLJ_a22 : ∀ q ∈ (abLJ_l[22]?.getD []), abLJ_P 22 q := ab_cn2 abLJ_22_1 ab_nl
theorem abLJ_a23 : ∀ q ∈ (abLJ_l[23]?.getD []), abLJ_P 23 q := ab_nl
theorem abLJ_a24 : ∀ q ∈ (abLJ_l[24]?.getD []), abLJ_P 24 q := ab_nl
theorem abLJ_ok : ∀ o, ∀ q ∈ abLJ o, abLJ_P o q := ab_fam (P := abLJ_P) (L := abLJ_l) (And.intro abLJ_a0 (And.intro abLJ_a1 (And.intro abLJ_a2 (And.intro abLJ_a3 (And.intro abLJ_a4 (And.intro abLJ_a5 (And.intro abLJ_a6 (And.intro abLJ_a7 (And.intro abLJ_a8 (And.intro abLJ_a9 (And.intro abLJ_a10 (And.intro abLJ_a11 (And.intro abLJ_a12 (And.intro abLJ_a13 (And.intro abLJ_a14 (And.intro abLJ_a15 (And.intro abLJ_a16 (And.intro abLJ_a17 (And.intro abLJ_a18 (And.intro abLJ_a19 (And.intro abLJ_a20 (And.intro abLJ_a21 (And.intro abLJ_a22 (And.intro abLJ_a23 (And.intro abLJ_a24 (trivial))))))))))))))))))))))))))
def abLU_l : List (List (Nat × Nat)) := [[(81, 0)], [(43, 0)], [], [(81, 0), (96, 1)], [(186, 1), (269, 0)], [(64, 0)], [(56, 0)], [], [], [], [], [], [], [], [], [], [], [], [], [], [], [], [], [], []]
noncomputable def abLU (o : Nat) : List (Nat × Nat) := ab_row abLU_l o
def abLU_P (o : Nat) (q : Nat × Nat) : Prop := Cond.methodLink (abCS o) q.1 (ab_fillN q.2) ∈ abTW
theorem abLU_0_81 : Cond.methodLink "TimberHouse$Fingers" 81 (ab_fillN 0) ∈ abTW := ab_in1 226 rfl rfl
theorem abLU_a0 : ∀ q ∈ (abLU_l[0]?.getD []), abLU_P 0 q := ab_cn2 abLU_0_81 ab_nl
theorem abLU_1_43 : Cond.methodLink "TimberHouse$Nails" 43 (ab_fillN 0) ∈ abTW := ab_in2 146 rfl rfl
theorem abLU_a1 : ∀ q ∈ (abLU_l[1]?.getD []), abLU_P 1 q := ab_cn2 abLU_1_43 ab_nl
theorem abLU_a2 : ∀ q ∈ (abLU_l[2]?.getD []), abLU_P 2 q := ab_nl
theorem abLU_3_81 : Cond.methodLink "TimberHouse$Prices" 81 (ab_fillN 0) ∈ abTW := ab_in3 154 rfl rfl
theorem abLU_3_96 : Cond.methodLink "TimberHouse$Prices" 96 (ab_fillN 1) ∈ abTW := ab_in3 155 rfl rfl
theorem abLU_a3 : ∀ q ∈ (abLU_l[3]?.getD []), abLU_P 3 q := ab_cn2 abLU_3_81 (ab_cn2 abLU_3_96 ab_nl)
theorem abLU_4_186 : Cond.methodLink "TimberHouse$Rips" 186 (ab_fillN 1) ∈ abTW := ab_in7 1 rfl rfl
theorem abLU_4_269 : Cond.methodLink "TimberHouse$Rips" 269 (ab_fillN 0) ∈ abTW := ab_in7 6 rfl rfl
theorem abLU_a4 : ∀ q ∈ (abLU_l[4]?.getD []), abLU_P 4 q := ab_cn2 abLU_4_186 (ab_cn2 abLU_4_269 ab_nl)
theorem abLU_5_64 : Cond.methodLink "TimberHouse$Router" 64 (ab_fillN 0) ∈ abTW := ab_in3 25 rfl rfl
theorem abLU_a5 : ∀ q ∈ (abLU_l[5]?.getD []), abLU_P 5 q := ab_cn2 abLU_5_64 ab_nl
theorem abLU_6_56 : Cond.methodLink "TimberHouse$Saw" 56 (ab_fillN 0) ∈ abTW := ab_in4 103 rfl rfl
theorem abLU_a6 : ∀ q ∈ (abLU_l[6]?.getD []), abLU_P 6 q := ab_cn2 abLU_6_56 ab_nl
theorem abLU_a7 : ∀ q ∈ (abLU_l[7]?.getD []), abLU_P 7 q := ab_nl
theorem abLU_a8 : ∀ q ∈ (abLU_l[8]?.getD []), abLU_P 8 q := ab_nl
theorem abLU_a9 : ∀ q ∈ (abLU_l[9]?.getD []), abLU_P 9 q := ab_nl
theorem abLU_a10 : ∀ q ∈ (abLU_l[10]?.getD []), abLU_P 10 q := ab_nl
theorem abLU_a11 : ∀ q ∈ (abLU_l[11]?.getD []), abLU_P 11 q := ab_nl
theorem abLU_a12 : ∀ q ∈ (abLU_l[12]?.getD []), abLU_P 12 q := ab_nl
theorem abLU_a13 : ∀ q ∈ (abLU_l[13]?.getD []), abLU_P 13 q := ab_nl
theorem abLU_a14 : ∀ q ∈ (abLU_l[14]?.getD []), abLU_P 14 q := ab_nl
theorem abLU_a15 : ∀ q ∈ (abLU_l[15]?.getD []), abLU_P 15 q := ab_nl
theorem abLU_a16 : ∀ q ∈ (abLU_l[16]?.getD []), abLU_P 16 q := ab_nl
theorem abLU_a17 : ∀ q ∈ (abLU_l[17]?.getD []), abLU_P 17 q := ab_nl
theorem abLU_a18 : ∀ q ∈ (abLU_l[18]?.getD []), abLU_P 18 q := ab_nl
theorem abLU_a19 : ∀ q ∈ (abLU_l[19]?.getD []), abLU_P 19 q := ab_nl
theorem abLU_a20 : ∀ q ∈ (abLU_l[20]?.getD []), abLU_P 20 q := ab_nl
theorem abLU_a21 : ∀ q ∈ (abLU_l[21]?.getD []), abLU_P 21 q := ab_nl
theorem abLU_a22 : ∀ q ∈ (abLU_l[22]?.getD []), abLU_P 22 q := ab_nl
theorem abLU_a23 : ∀ q ∈ (abLU_l[23]?.getD []), abLU_P 23 q := ab_nl
theorem abLU_a24 : ∀ q ∈ (abLU_l[24]?.getD []), abLU_P 24 q := ab_nl
theorem abLU_ok : ∀ o, ∀ q ∈ abLU o, abLU_P o q := ab_fam (P := abLU_P) (L := abLU_l) (And.intro abLU_a0 (And.intro abLU_a1 (And.intro abLU_a2 (And.intro abLU_a3 (And.intro abLU_a4 (And.intro abLU_a5 (And.intro abLU_a6 (And.intro abLU_a7 (And.intro abLU_a8 (And.intro abLU_a9 (And.intro abLU_a10 (And.intro abLU_a11 (And.intro abLU_a12 (And.intro abLU_a13 (And.intro abLU_a14 (And.intro abLU_a15 (And.intro abLU_a16 (And.intro abLU_a17 (And.intro abLU_a18 (And.intro abLU_a19 (And.intro abLU_a20 (And.intro abLU_a21 (And.intro abLU_a22 (And.intro abLU_a23 (And.intro abLU_a24 (trivial))))))))))))))))))))))))))
def abLC_l : List (List (Nat × Nat)) := [[(175, 1)], [], [], [], [(198, 1)], [], [], [], [], [], [], [], [], [], [], [], [], [], [], [], [], [], [], [], []]
noncomputable def abLC (o : Nat) : List (Nat × Nat) := ab_row abLC_l o
def abLC_P (o : Nat) (q : Nat × Nat) : Prop := Cond.methodLink (abCS o) q.1 arraycopyName ∈ abTW
theorem abLC_0_175 : Cond.methodLink "TimberHouse$Fingers" 175 arraycopyName ∈ abTW := ab_in8 3 rfl rfl
theorem abLC_a0 : ∀ q ∈ (abLC_l[0]?.getD []), abLC_P 0 q := ab_cn2 abLC_0_175 ab_nl
theorem abLC_a1 : ∀ q ∈ (abLC_l[1]?.getD []), abLC_P 1 q := ab_nl
theorem abLC_a2 : ∀ q ∈ (abLC_l[2]?.getD []), abLC_P 2 q := ab_nl
theorem abLC_a3 : ∀ q ∈ (abLC_l[3]?.getD []), abLC_P 3 q := ab_nl
theorem abLC_4_198 : Cond.methodLink "TimberHouse$Rips" 198 arraycopyName ∈ abTW := ab_in7 83 rfl rfl
theorem abLC_a4 : ∀ q ∈ (abLC_l[4]?.getD []), abLC_P 4 q := ab_cn2 abLC_4_198 ab_nl
theorem abLC_a5 : ∀ q ∈ (abLC_l[5]?.getD []), abLC_P 5 q := ab_nl
theorem abLC_a6 : ∀ q ∈ (abLC_l[6]?.getD []), abLC_P 6 q := ab_nl
theorem abLC_a7 : ∀ q ∈ (abLC_l[7]?.getD []), abLC_P 7 q := ab_nl
theorem abLC_a8 : ∀ q ∈ (abLC_l[8]?.getD []), abLC_P 8 q := ab_nl
theorem abLC_a9 : ∀ q ∈ (abLC_l[9]?.getD []), abLC_P 9 q := ab_nl
theorem abLC_a10 : ∀ q ∈ (abLC_l[10]?.getD []), abLC_P 10 q := ab_nl
theorem abLC_a11 : ∀ q ∈ (abLC_l[11]?.getD []), abLC_P 11 q := ab_nl
theorem abLC_a12 : ∀ q ∈ (abLC_l[12]?.getD []), abLC_P 12 q := ab_nl
theorem abLC_a13 : ∀ q ∈ (abLC_l[13]?.getD []), abLC_P 13 q := ab_nl
theorem abLC_a14 : ∀ q ∈ (abLC_l[14]?.getD []), abLC_P 14 q := ab_nl
theorem abLC_a15 : ∀ q ∈ (abLC_l[15]?.getD []), abLC_P 15 q := ab_nl
theorem abLC_a16 : ∀ q ∈ (abLC_l[16]?.getD []), abLC_P 16 q := ab_nl
theorem abLC_a17 : ∀ q ∈ (abLC_l[17]?.getD []), abLC_P 17 q := ab_nl
theorem abLC_a18 : ∀ q ∈ (abLC_l[18]?.getD []), abLC_P 18 q := ab_nl
theorem abLC_a19 : ∀ q ∈ (abLC_l[19]?.getD []), abLC_P 19 q := ab_nl
theorem abLC_a20 : ∀ q ∈ (abLC_l[20]?.getD []), abLC_P 20 q := ab_nl
theorem abLC_a21 : ∀ q ∈ (abLC_l[21]?.getD []), abLC_P 21 q := ab_nl
theorem abLC_a22 : ∀ q ∈ (abLC_l[22]?.getD []), abLC_P 22 q := ab_nl
theorem abLC_a23 : ∀ q ∈ (abLC_l[23]?.getD []), abLC_P 23 q := ab_nl
theorem abLC_a24 : ∀ q ∈ (abLC_l[24]?.getD []), abLC_P 24 q := ab_nl
theorem abLC_ok : ∀ o, ∀ q ∈ abLC o, abLC_P o q := ab_fam (P := abLC_P) (L := abLC_l) (And.intro abLC_a0 (And.intro abLC_a1 (And.intro abLC_a2 (And.intro abLC_a3 (And.intro abLC_a4 (And.intro abLC_a5 (And.intro abLC_a6 (And.intro abLC_a7 (And.intro abLC_a8 (And.intro abLC_a9 (And.intro abLC_a10 (And.intro abLC_a11 (And.intro abLC_a12 (And.intro abLC_a13 (And.intro abLC_a14 (And.intro abLC_a15 (And.intro abLC_a16 (And.intro abLC_a17 (And.intro abLC_a18 (And.intro abLC_a19 (And.intro abLC_a20 (And.intro abLC_a21 (And.intro abLC_a22 (And.intro abLC_a23 (And.intro abLC_a24 (trivial))))))))))))))))))))))))))
theorem abCpy : Cond.native arraycopyName ∈ abTW ∧ Cond.static arraycopyName ∈ abTW ∧ Cond.initialized "java/lang/System" ∈ abTW := ⟨ab_in7 85 rfl rfl, ab_in7 84 rfl rfl, ab_in1 32 rfl rfl⟩
theorem abFil : ∀ t, t ≤ 1 → Cond.static (ab_fillN t) ∈ abTW ∧ Cond.initialized "java/util/Arrays" ∈ abTW ∧ Cond.code (ab_fillN t) (ab_fillB t) (ab_fillL t) none ∈ abTW
  | 0, _ => ⟨ab_in1 227 rfl rfl, ab_in1 6 rfl rfl, ab_in1 228 rfl rfl⟩
  | 1, _ => ⟨ab_in3 156 rfl rfl, ab_in1 6 rfl rfl, ab_in3 157 rfl rfl⟩
  | _ + 2, h => absurd h (by omega)
theorem abDLt : ∀ x ∈ abDL, Cond.declares x ∈ tables_1 := ab_cn2 (ab_im5 234 rfl) (ab_cn2 (ab_im5 236 rfl) (ab_cn2 (ab_im5 238 rfl) ab_nl))
theorem abNLt : ∀ q ∈ abNL, Cond.methodLinkNest q.1 q.2.1 q.2.2.1 q.2.2.2 ∈ tables_1 := ab_cn2 (ab_im1 222 rfl) (ab_cn2 (ab_im1 223 rfl) (ab_cn2 (ab_im4 139 rfl) (ab_cn2 (ab_im4 141 rfl) (ab_cn2 (ab_im7 180 rfl) (ab_cn2 (ab_im7 192 rfl) (ab_cn2 (ab_im8 16 rfl) (ab_cn2 (ab_im8 17 rfl) (ab_cn2 (ab_im8 205 rfl) (ab_cn2 (ab_im9 22 rfl) (ab_cn2 (ab_im9 23 rfl) (ab_cn2 (ab_im9 28 rfl) (ab_cn2 (ab_im9 66 rfl) (ab_cn2 (ab_im9 71 rfl) (ab_cn2 (ab_im4 181 rfl) (ab_cn2 (ab_im10 137 rfl) (ab_cn2 (ab_im10 138 rfl) (ab_cn2 (ab_im10 143 rfl) (ab_cn2 (ab_im10 156 rfl) (ab_cn2 (ab_im11 60 rfl) (ab_cn2 (ab_im5 93 rfl) (ab_cn2 (ab_im11 88 rfl) (ab_cn2 (ab_im11 91 rfl) (ab_cn2 (ab_im11 148 rfl) (ab_cn2 (ab_im11 123 rfl) (ab_cn2 (ab_im11 166 rfl) (ab_cn2 (ab_im1 122 rfl) (ab_cn2 (ab_im1 132 rfl) (ab_cn2 (ab_im4 130 rfl) (ab_cn2 (ab_im6 203 rfl) (ab_cn2 (ab_im6 204 rfl) (ab_cn2 (ab_im6 206 rfl) (ab_cn2 (ab_im6 212 rfl) (ab_cn2 (ab_im7 101 rfl) (ab_cn2 (ab_im3 24 rfl) (ab_cn2 (ab_im10 6 rfl) (ab_cn2 (ab_im9 237 rfl) (ab_cn2 (ab_im9 236 rfl) (ab_cn2 (ab_im9 238 rfl) (ab_cn2 (ab_im10 45 rfl) (ab_cn2 (ab_im4 102 rfl) (ab_cn2 (ab_im4 87 rfl) (ab_cn2 (ab_im5 228 rfl) (ab_cn2 (ab_im6 58 rfl) (ab_cn2 (ab_im6 85 rfl) (ab_cn2 (ab_im6 167 rfl) (ab_cn2 (ab_im6 122 rfl) (ab_cn2 (ab_im2 192 rfl) (ab_cn2 (ab_im4 225 rfl) (ab_cn2 (ab_im9 126 rfl) (ab_cn2 (ab_im9 127 rfl) (ab_cn2 (ab_im9 132 rfl) (ab_cn2 (ab_im9 137 rfl) (ab_cn2 (ab_im9 162 rfl) (ab_cn2 (ab_im11 203 rfl) (ab_cn2 (ab_im11 207 rfl) (ab_cn2 (ab_im11 210 rfl) (ab_cn2 (ab_im5 164 rfl) (ab_cn2 (ab_im12 68 rfl) (ab_cn2 (ab_im5 61 rfl) (ab_cn2 (ab_im4 194 rfl) (ab_cn2 (ab_im8 64 rfl) (ab_cn2 (ab_im8 73 rfl) (ab_cn2 (ab_im8 92 rfl) (ab_cn2 (ab_im8 163 rfl) ab_nl))))))))))))))))))))))))))))))))))))))))))))))))))))))))))))))))
theorem abCAt : ∀ x ∈ [Cond.castable (abEN 0) (abEN 0), Cond.castable (abEN 1) (abEN 1), Cond.castable (abEN 2) (abEN 2)], x ∈ tables_1 := ab_cn2 (ab_im5 233 rfl) (ab_cn2 (ab_im6 63 rfl) (ab_cn2 (ab_im6 90 rfl) ab_nl))
theorem abNWt : ∀ w ∈ abNW, w ∈ tables_1 := fun w hw => by
  rcases List.mem_append.mp hw with h | h
  · obtain ⟨q, hq, rfl⟩ := List.mem_map.mp h
    exact abNLt q hq
  · rcases List.mem_append.mp h with h | h
    · exact abCAt w h
    · obtain ⟨x, hx, rfl⟩ := List.mem_map.mp h
      exact abDLt x hx
theorem abNWd {x : MethodName} (i : Nat) (h : abDL[i]? = some x) : Cond.declares x ∈ abNW := List.mem_append_right _ (List.mem_append_right _ (List.mem_map.mpr ⟨x, List.mem_of_getElem? h, rfl⟩))
theorem abNWc {w : Cond} (i : Nat) (h : ([Cond.castable (abEN 0) (abEN 0), Cond.castable (abEN 1) (abEN 1), Cond.castable (abEN 2) (abEN 2)] : List Cond)[i]? = some w) : w ∈ abNW := List.mem_append_right _ (List.mem_append_left _ (List.mem_of_getElem? h))
def abThP (w : Cond) : Prop := vx_ot w = true ∧ (w ∈ abTW ∨ w ∈ abNW)
theorem abThA0 : ∀ w ∈ Bundle.ownAtoms0 "TimberHouse" 283 (abEN 0) ["java/lang/RuntimeException", "java/lang/Exception"], vx_no w = true → abThP w := ab_cn2 (fun _ => ⟨rfl, Or.inl (ab_in1 26 rfl rfl)⟩) (ab_cn2 (fun _ => ⟨rfl, Or.inl (ab_in6 13 rfl rfl)⟩) (ab_cn2 (fun _ => ⟨rfl, Or.inl (ab_in6 22 rfl rfl)⟩) (ab_cn2 (fun _ => ⟨rfl, Or.inl (ab_in6 26 rfl rfl)⟩) (ab_cn2 (fun _ => ⟨rfl, Or.inl (ab_in6 29 rfl rfl)⟩) (ab_cn2 (fun _ => ⟨rfl, Or.inl (ab_in6 31 rfl rfl)⟩) (ab_cn2 (fun _ => ⟨rfl, Or.inl (ab_in6 14 rfl rfl)⟩) (ab_cn2 (fun _ => ⟨rfl, Or.inl (ab_in6 15 rfl rfl)⟩) (ab_cn2 (fun _ => ⟨rfl, Or.inl (ab_in1 43 rfl rfl)⟩) (ab_cn2 (fun _ => ⟨rfl, Or.inl (ab_in1 44 rfl rfl)⟩) (ab_cn2 (fun _ => ⟨rfl, Or.inl (ab_in6 16 rfl rfl)⟩) (ab_cn2 (fun _ => ⟨rfl, Or.inl (ab_in6 21 rfl rfl)⟩) (ab_cn2 (fun _ => ⟨rfl, Or.inl (ab_in6 27 rfl rfl)⟩) (ab_cn2 (fun _ => ⟨rfl, Or.inl (ab_in6 43 rfl rfl)⟩) (ab_cn2 (fun _ => ⟨rfl, Or.inl (ab_in6 3 rfl rfl)⟩) (ab_cn2 (fun _ => ⟨rfl, Or.inl (ab_in6 44 rfl rfl)⟩) (ab_cn2 (fun _ => ⟨rfl, Or.inl (ab_in6 5 rfl rfl)⟩) (ab_cn2 (fun _ => ⟨rfl, Or.inl (ab_in6 45 rfl rfl)⟩) (ab_cn2 (fun _ => ⟨rfl, Or.inl (ab_in6 7 rfl rfl)⟩) (ab_cn2 (fun _ => ⟨rfl, Or.inl (ab_in6 17 rfl rfl)⟩) (ab_cn2 (fun h => absurd h (by decide)) (ab_cn2 (fun _ => ⟨rfl, Or.inl (ab_in6 19 rfl rfl)⟩) (ab_cn2 (fun h => absurd h (by decide)) (ab_cn2 (fun _ => ⟨rfl, Or.inl (ab_in6 9 rfl rfl)⟩) (ab_cn2 (fun _ => ⟨rfl, Or.inl (ab_in6 33 rfl rfl)⟩) (ab_cn2 (fun _ => ⟨rfl, Or.inl (ab_in6 34 rfl rfl)⟩) (ab_cn2 (fun _ => ⟨rfl, Or.inl (ab_in6 35 rfl rfl)⟩) (ab_cn2 (fun _ => ⟨rfl, Or.inl (ab_in6 36 rfl rfl)⟩) (ab_cn2 (fun _ => ⟨rfl, Or.inr (abNWd 0 rfl)⟩) (ab_cn2 (fun _ => ⟨rfl, Or.inl (ab_in6 36 rfl rfl)⟩) (ab_cn2 (fun _ => ⟨rfl, Or.inl (ab_in6 37 rfl rfl)⟩) (ab_cn2 (fun _ => ⟨rfl, Or.inl (ab_in6 38 rfl rfl)⟩) (ab_cn2 (fun _ => ⟨rfl, Or.inl (ab_in6 39 rfl rfl)⟩) (ab_cn2 (fun _ => ⟨rfl, Or.inr (abNWd 1 rfl)⟩) (ab_cn2 (fun _ => ⟨rfl, Or.inl (ab_in6 39 rfl rfl)⟩) (ab_cn2 (fun _ => ⟨rfl, Or.inl (ab_in6 40 rfl rfl)⟩) (ab_cn2 (fun _ => ⟨rfl, Or.inl (ab_in6 41 rfl rfl)⟩) (ab_cn2 (fun _ => ⟨rfl, Or.inl (ab_in6 14 rfl rfl)⟩) (ab_cn2 (fun _ => ⟨rfl, Or.inr (abNWd 2 rfl)⟩) (ab_cn2 (fun _ => ⟨rfl, Or.inl (ab_in6 32 rfl rfl)⟩) (ab_cn2 (fun _ => ⟨rfl, Or.inl (ab_in5 232 rfl rfl)⟩) (ab_cn2 (fun _ => ⟨rfl, Or.inr (abNWc 0 rfl)⟩) (ab_cn2 (fun _ => ⟨rfl, Or.inl (ab_in6 0 rfl rfl)⟩) (ab_cn2 (fun _ => ⟨rfl, Or.inl (ab_in6 1 rfl rfl)⟩) (ab_cn2 (fun _ => ⟨rfl, Or.inl (ab_in6 2 rfl rfl)⟩) (ab_cn2 (fun _ => ⟨rfl, Or.inl (ab_in6 4 rfl rfl)⟩) (ab_cn2 (fun _ => ⟨rfl, Or.inl (ab_in6 6 rfl rfl)⟩) (ab_cn2 (fun _ => ⟨rfl, Or.inl (ab_in6 8 rfl rfl)⟩) (ab_cn2 (fun h => absurd h (by decide)) (ab_cn2 (fun h => absurd h (by decide)) (ab_cn2 (fun _ => ⟨rfl, Or.inl (ab_in6 12 rfl rfl)⟩) (ab_cn2 (fun _ => ⟨rfl, Or.inl (ab_in6 11 rfl rfl)⟩) (ab_cn2 (fun _ => ⟨rfl, Or.inl (ab_in6 10 rfl rfl)⟩) ab_nl))))))))))))))))))))))))))))))))))))))))))))))))))))
theorem abThW0 : ∀ w ∈ Cond.classLink "TimberHouse" 281 (abEN 0) :: Cond.initialized (abEN 0) :: vx_at0 "TimberHouse" 283 (abEN 0) ["java/lang/RuntimeException", "java/lang/Exception"], abThP w := ab_cn2 ⟨rfl, Or.inl (ab_in5 231 rfl rfl)⟩ (ab_cn2 ⟨rfl, Or.inl (ab_in1 29 rfl rfl)⟩ (fun w hw => abThA0 w (List.mem_filter.mp hw).1 (List.mem_filter.mp hw).2))
theorem abThA1 : ∀ w ∈ Bundle.ownAtoms0 "TimberHouse" 286 (abEN 1) ["java/lang/RuntimeException", "java/lang/Exception"], vx_no w = true → abThP w := ab_cn2 (fun _ => ⟨rfl, Or.inl (ab_in1 26 rfl rfl)⟩) (ab_cn2 (fun _ => ⟨rfl, Or.inl (ab_in6 13 rfl rfl)⟩) (ab_cn2 (fun _ => ⟨rfl, Or.inl (ab_in6 22 rfl rfl)⟩) (ab_cn2 (fun _ => ⟨rfl, Or.inl (ab_in6 26 rfl rfl)⟩) (ab_cn2 (fun _ => ⟨rfl, Or.inl (ab_in6 29 rfl rfl)⟩) (ab_cn2 (fun _ => ⟨rfl, Or.inl (ab_in6 31 rfl rfl)⟩) (ab_cn2 (fun _ => ⟨rfl, Or.inl (ab_in6 14 rfl rfl)⟩) (ab_cn2 (fun _ => ⟨rfl, Or.inl (ab_in6 15 rfl rfl)⟩) (ab_cn2 (fun _ => ⟨rfl, Or.inl (ab_in1 43 rfl rfl)⟩) (ab_cn2 (fun _ => ⟨rfl, Or.inl (ab_in1 44 rfl rfl)⟩) (ab_cn2 (fun _ => ⟨rfl, Or.inl (ab_in6 16 rfl rfl)⟩) (ab_cn2 (fun _ => ⟨rfl, Or.inl (ab_in6 21 rfl rfl)⟩) (ab_cn2 (fun _ => ⟨rfl, Or.inl (ab_in6 27 rfl rfl)⟩) (ab_cn2 (fun _ => ⟨rfl, Or.inl (ab_in6 43 rfl rfl)⟩) (ab_cn2 (fun _ => ⟨rfl, Or.inl (ab_in6 3 rfl rfl)⟩) (ab_cn2 (fun _ => ⟨rfl, Or.inl (ab_in6 44 rfl rfl)⟩) (ab_cn2 (fun _ => ⟨rfl, Or.inl (ab_in6 5 rfl rfl)⟩) (ab_cn2 (fun _ => ⟨rfl, Or.inl (ab_in6 45 rfl rfl)⟩) (ab_cn2 (fun _ => ⟨rfl, Or.inl (ab_in6 7 rfl rfl)⟩) (ab_cn2 (fun _ => ⟨rfl, Or.inl (ab_in6 17 rfl rfl)⟩) (ab_cn2 (fun h => absurd h (by decide)) (ab_cn2 (fun _ => ⟨rfl, Or.inl (ab_in6 19 rfl rfl)⟩) (ab_cn2 (fun h => absurd h (by decide)) (ab_cn2 (fun _ => ⟨rfl, Or.inl (ab_in6 9 rfl rfl)⟩) (ab_cn2 (fun _ => ⟨rfl, Or.inl (ab_in6 71 rfl rfl)⟩) (ab_cn2 (fun _ => ⟨rfl, Or.inl (ab_in6 72 rfl rfl)⟩) (ab_cn2 (fun _ => ⟨rfl, Or.inl (ab_in6 73 rfl rfl)⟩) (ab_cn2 (fun _ => ⟨rfl, Or.inl (ab_in6 36 rfl rfl)⟩) (ab_cn2 (fun _ => ⟨rfl, Or.inr (abNWd 0 rfl)⟩) (ab_cn2 (fun _ => ⟨rfl, Or.inl (ab_in6 36 rfl rfl)⟩) (ab_cn2 (fun _ => ⟨rfl, Or.inl (ab_in6 37 rfl rfl)⟩) (ab_cn2 (fun _ => ⟨rfl, Or.inl (ab_in6 38 rfl rfl)⟩) (ab_cn2 (fun _ => ⟨rfl, Or.inl (ab_in6 39 rfl rfl)⟩) (ab_cn2 (fun _ => ⟨rfl, Or.inr (abNWd 1 rfl)⟩) (ab_cn2 (fun _ => ⟨rfl, Or.inl (ab_in6 39 rfl rfl)⟩) (ab_cn2 (fun _ => ⟨rfl, Or.inl (ab_in6 40 rfl rfl)⟩) (ab_cn2 (fun _ => ⟨rfl, Or.inl (ab_in6 41 rfl rfl)⟩) (ab_cn2 (fun _ => ⟨rfl, Or.inl (ab_in6 14 rfl rfl)⟩) (ab_cn2 (fun _ => ⟨rfl, Or.inr (abNWd 2 rfl)⟩) (ab_cn2 (fun _ => ⟨rfl, Or.inl (ab_in6 70 rfl rfl)⟩) (ab_cn2 (fun _ => ⟨rfl, Or.inl (ab_in6 62 rfl rfl)⟩) (ab_cn2 (fun _ => ⟨rfl, Or.inr (abNWc 1 rfl)⟩) (ab_cn2 (fun _ => ⟨rfl, Or.inl (ab_in6 64 rfl rfl)⟩) (ab_cn2 (fun _ => ⟨rfl, Or.inl (ab_in6 24 rfl rfl)⟩) (ab_cn2 (fun _ => ⟨rfl, Or.inl (ab_in6 65 rfl rfl)⟩) (ab_cn2 (fun _ => ⟨rfl, Or.inl (ab_in6 66 rfl rfl)⟩) (ab_cn2 (fun _ => ⟨rfl, Or.inl (ab_in6 67 rfl rfl)⟩) (ab_cn2 (fun _ => ⟨rfl, Or.inl (ab_in6 68 rfl rfl)⟩) (ab_cn2 (fun h => absurd h (by decide)) (ab_cn2 (fun h => absurd h (by decide)) (ab_cn2 (fun _ => ⟨rfl, Or.inl (ab_in6 12 rfl rfl)⟩) (ab_cn2 (fun _ => ⟨rfl, Or.inl (ab_in6 11 rfl rfl)⟩) (ab_cn2 (fun _ => ⟨rfl, Or.inl (ab_in6 69 rfl rfl)⟩) ab_nl))))))))))))))))))))))))))))))))))))))))))))))))))))
theorem abThW1 : ∀ w ∈ Cond.classLink "TimberHouse" 284 (abEN 1) :: Cond.initialized (abEN 1) :: vx_at0 "TimberHouse" 286 (abEN 1) ["java/lang/RuntimeException", "java/lang/Exception"], abThP w := ab_cn2 ⟨rfl, Or.inl (ab_in6 61 rfl rfl)⟩ (ab_cn2 ⟨rfl, Or.inl (ab_in1 30 rfl rfl)⟩ (fun w hw => abThA1 w (List.mem_filter.mp hw).1 (List.mem_filter.mp hw).2))
theorem abThA2 : ∀ w ∈ Bundle.ownAtoms0 "TimberHouse" 289 (abEN 2) ["java/lang/RuntimeException", "java/lang/Exception"], vx_no w = true → abThP w := ab_cn2 (fun _ => ⟨rfl, Or.inl (ab_in1 26 rfl rfl)⟩) (ab_cn2 (fun _ => ⟨rfl, Or.inl (ab_in6 13 rfl rfl)⟩) (ab_cn2 (fun _ => ⟨rfl, Or.inl (ab_in6 22 rfl rfl)⟩) (ab_cn2 (fun _ => ⟨rfl, Or.inl (ab_in6 26 rfl rfl)⟩) (ab_cn2 (fun _ => ⟨rfl, Or.inl (ab_in6 29 rfl rfl)⟩) (ab_cn2 (fun _ => ⟨rfl, Or.inl (ab_in6 31 rfl rfl)⟩) (ab_cn2 (fun _ => ⟨rfl, Or.inl (ab_in6 14 rfl rfl)⟩) (ab_cn2 (fun _ => ⟨rfl, Or.inl (ab_in6 15 rfl rfl)⟩) (ab_cn2 (fun _ => ⟨rfl, Or.inl (ab_in1 43 rfl rfl)⟩) (ab_cn2 (fun _ => ⟨rfl, Or.inl (ab_in1 44 rfl rfl)⟩) (ab_cn2 (fun _ => ⟨rfl, Or.inl (ab_in6 16 rfl rfl)⟩) (ab_cn2 (fun _ => ⟨rfl, Or.inl (ab_in6 21 rfl rfl)⟩) (ab_cn2 (fun _ => ⟨rfl, Or.inl (ab_in6 27 rfl rfl)⟩) (ab_cn2 (fun _ => ⟨rfl, Or.inl (ab_in6 43 rfl rfl)⟩) (ab_cn2 (fun _ => ⟨rfl, Or.inl (ab_in6 3 rfl rfl)⟩) (ab_cn2 (fun _ => ⟨rfl, Or.inl (ab_in6 44 rfl rfl)⟩) (ab_cn2 (fun _ => ⟨rfl, Or.inl (ab_in6 5 rfl rfl)⟩) (ab_cn2 (fun _ => ⟨rfl, Or.inl (ab_in6 45 rfl rfl)⟩) (ab_cn2 (fun _ => ⟨rfl, Or.inl (ab_in6 7 rfl rfl)⟩) (ab_cn2 (fun _ => ⟨rfl, Or.inl (ab_in6 17 rfl rfl)⟩) (ab_cn2 (fun h => absurd h (by decide)) (ab_cn2 (fun _ => ⟨rfl, Or.inl (ab_in6 19 rfl rfl)⟩) (ab_cn2 (fun h => absurd h (by decide)) (ab_cn2 (fun _ => ⟨rfl, Or.inl (ab_in6 9 rfl rfl)⟩) (ab_cn2 (fun _ => ⟨rfl, Or.inl (ab_in6 98 rfl rfl)⟩) (ab_cn2 (fun _ => ⟨rfl, Or.inl (ab_in6 99 rfl rfl)⟩) (ab_cn2 (fun _ => ⟨rfl, Or.inl (ab_in6 100 rfl rfl)⟩) (ab_cn2 (fun _ => ⟨rfl, Or.inl (ab_in6 36 rfl rfl)⟩) (ab_cn2 (fun _ => ⟨rfl, Or.inr (abNWd 0 rfl)⟩) (ab_cn2 (fun _ => ⟨rfl, Or.inl (ab_in6 36 rfl rfl)⟩) (ab_cn2 (fun _ => ⟨rfl, Or.inl (ab_in6 37 rfl rfl)⟩) (ab_cn2 (fun _ => ⟨rfl, Or.inl (ab_in6 38 rfl rfl)⟩) (ab_cn2 (fun _ => ⟨rfl, Or.inl (ab_in6 39 rfl rfl)⟩) (ab_cn2 (fun _ => ⟨rfl, Or.inr (abNWd 1 rfl)⟩) (ab_cn2 (fun _ => ⟨rfl, Or.inl (ab_in6 39 rfl rfl)⟩) (ab_cn2 (fun _ => ⟨rfl, Or.inl (ab_in6 40 rfl rfl)⟩) (ab_cn2 (fun _ => ⟨rfl, Or.inl (ab_in6 41 rfl rfl)⟩) (ab_cn2 (fun _ => ⟨rfl, Or.inl (ab_in6 14 rfl rfl)⟩) (ab_cn2 (fun _ => ⟨rfl, Or.inr (abNWd 2 rfl)⟩) (ab_cn2 (fun _ => ⟨rfl, Or.inl (ab_in6 97 rfl rfl)⟩) (ab_cn2 (fun _ => ⟨rfl, Or.inl (ab_in6 89 rfl rfl)⟩) (ab_cn2 (fun _ => ⟨rfl, Or.inr (abNWc 2 rfl)⟩) (ab_cn2 (fun _ => ⟨rfl, Or.inl (ab_in6 91 rfl rfl)⟩) (ab_cn2 (fun _ => ⟨rfl, Or.inl (ab_in6 25 rfl rfl)⟩) (ab_cn2 (fun _ => ⟨rfl, Or.inl (ab_in6 92 rfl rfl)⟩) (ab_cn2 (fun _ => ⟨rfl, Or.inl (ab_in6 93 rfl rfl)⟩) (ab_cn2 (fun _ => ⟨rfl, Or.inl (ab_in6 94 rfl rfl)⟩) (ab_cn2 (fun _ => ⟨rfl, Or.inl (ab_in6 95 rfl rfl)⟩) (ab_cn2 (fun h => absurd h (by decide)) (ab_cn2 (fun h => absurd h (by decide)) (ab_cn2 (fun _ => ⟨rfl, Or.inl (ab_in6 12 rfl rfl)⟩) (ab_cn2 (fun _ => ⟨rfl, Or.inl (ab_in6 11 rfl rfl)⟩) (ab_cn2 (fun _ => ⟨rfl, Or.inl (ab_in6 96 rfl rfl)⟩) ab_nl))))))))))))))))))))))))))))))))))))))))))))))))))))
theorem abThW2 : ∀ w ∈ Cond.classLink "TimberHouse" 287 (abEN 2) :: Cond.initialized (abEN 2) :: vx_at0 "TimberHouse" 289 (abEN 2) ["java/lang/RuntimeException", "java/lang/Exception"], abThP w := ab_cn2 ⟨rfl, Or.inl (ab_in6 88 rfl rfl)⟩ (ab_cn2 ⟨rfl, Or.inl (ab_in1 31 rfl rfl)⟩ (fun w hw => abThA2 w (List.mem_filter.mp hw).1 (List.mem_filter.mp hw).2))
theorem abObj : Cond.instanceMethod Lib.objectInit ∈ abTW ∧ Cond.code Lib.objectInit ⟨#[0xb1]⟩ 1 none ∈ abTW := ⟨ab_in1 43 rfl rfl, ab_in1 44 rfl rfl⟩
theorem abAC : ∀ t, t ≤ 2 → Cond.arrayClass (ab_et t) ∈ abTW
  | 0, _ => ab_in1 105 rfl rfl
  | 1, _ => ab_in1 106 rfl rfl
  | 2, _ => ab_in12 174 rfl rfl
  | _ + 3, h => absurd h (by omega)
