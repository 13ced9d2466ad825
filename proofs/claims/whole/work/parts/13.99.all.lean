/-! THE CODES ARE GOOD: all of them, and the law (written by wip/gen/code12.py) -/
theorem mtab_ok : ∀ q ∈ jtab, mPq jtab q := by
  unfold jtab
  exact List.forall_mem_append.mpr ⟨okc_0, List.forall_mem_append.mpr ⟨okc_1, List.forall_mem_append.mpr ⟨okc_2, List.forall_mem_append.mpr ⟨okc_3, List.forall_mem_append.mpr ⟨okc_4, List.forall_mem_append.mpr ⟨okc_5, List.forall_mem_append.mpr ⟨okc_6, List.forall_mem_append.mpr ⟨okc_7, List.forall_mem_append.mpr ⟨okc_8, List.forall_mem_append.mpr ⟨okc_9, List.forall_mem_append.mpr ⟨okc_10, List.forall_mem_append.mpr ⟨okc_11, List.forall_mem_append.mpr ⟨okc_12, List.forall_mem_append.mpr ⟨okc_13, List.forall_mem_append.mpr ⟨okc_14, List.forall_mem_append.mpr ⟨okc_15, List.forall_mem_append.mpr ⟨okc_16, List.forall_mem_append.mpr ⟨okc_17, List.forall_mem_append.mpr ⟨okc_18, List.forall_mem_append.mpr ⟨okc_19, List.forall_mem_append.mpr ⟨okc_20, okc_21⟩⟩⟩⟩⟩⟩⟩⟩⟩⟩⟩⟩⟩⟩⟩⟩⟩⟩⟩⟩⟩
theorem mtab_Q : mQs jtab := fun y q h => (mtab_ok q (List.mem_of_getElem? h)).1
theorem mtab_P : mPs jtab := fun y q h => (mtab_ok q (List.mem_of_getElem? h)).2
theorem mokSeg {tb : List MT} {own : String} {ini : Bool} {cc : ByteArray} {C : List MI} {ret : Option FieldType} {k n : Nat} {l1 l2 : List MI} (hn : l1.length = n) (h1 : ∀ j i, l1[j]? = some i → ∃ ps, mokB tb own ini cc C ret (k + j) i ps = true) (h2 : ∀ j i, l2[j]? = some i → ∃ ps, mokB tb own ini cc C ret (k + n + j) i ps = true) : ∀ j i, (l1 ++ l2)[j]? = some i → ∃ ps, mokB tb own ini cc C ret (k + j) i ps = true := by
  subst hn
  intro j i h
  by_cases hj : j < l1.length
  · rw [List.getElem?_append_left hj] at h
    exact h1 j i h
  · rw [List.getElem?_append_right (by omega)] at h
    obtain ⟨ps, hp⟩ := h2 _ i h
    exact ⟨ps, by rwa [show k + l1.length + (j - l1.length) = k + j by omega] at hp⟩
