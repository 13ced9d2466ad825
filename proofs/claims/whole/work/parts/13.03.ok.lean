/-! THE CODES ARE GOOD: part 2 (written by wip/gen/code12.py) -/
set_option maxRecDepth 100000 in
theorem okq_32 : mPq mtab (yX7_isDigit, cX7_isDigit, 1, (some .boolean), KX7_isDigit) := mPq_of 498 [[], [], [], [], [], [], [], [], [], []] rfl (by decide +kernel) (by decide +kernel)
set_option maxRecDepth 100000 in
theorem okq_33 : mPq mtab (yX7_add, cX7_add, 4, none, KX7_add) := mPq_of 509 [[], [302], [], [], [], [296], [], [302], [], [], [], [298], [], [302], [], [], [], [300], [], [302], [], [], [], [], [302], [], [], [302], []] rfl (by decide +kernel) (by decide +kernel)
set_option maxRecDepth 100000 in
theorem okq_34 : mPq mtab (yX7_cutNumber, cX7_cutNumber, 5, (some .int), KX7_cutNumber) := mPq_of 502 [[], [], [], [], [], [], [], [], [294], [], [], [293], [], [], [116, 496, 497], [], [], [], [], [], [293], [], [], [], [], [], [], [121, 503, 504, 505], [], [], [], [], [], [], [], [], [], [], [], [116, 506, 508, 2], [], []] rfl (by decide +kernel) (by decide +kernel)
set_option maxRecDepth 100000 in
theorem okq_35 : mPq mtab (yX7_isLetter, cX7_isLetter, 1, (some .boolean), KX7_isLetter) := mPq_of 512 [[], [], [], [], [], [], [], [], [], [], [], [], [], [], [], []] rfl (by decide +kernel) (by decide +kernel)
set_option maxRecDepth 100000 in
theorem okq_36 : mPq mtab (yJ0_coder_7d493, cJ0_coder_7d493, 1, (some .byte), KJ0_coder_7d493) := mPq_of 529 [[530], [], [], [1939], [], [], []] rfl (by decide +kernel) (by decide +kernel)
set_option maxRecDepth 100000 in
theorem okq_37 : mPq mtab (yJ0_length_8abf5, cJ0_length_8abf5, 1, (some .int), KJ0_length_8abf5) := mPq_of 525 [[], [1938], [], [], [122, 526, 527, 528], [], []] rfl (by decide +kernel) (by decide +kernel)
set_option maxRecDepth 100000 in
theorem okq_38 : mPq mtab (yJ0_isLatin1_aae02, cJ0_isLatin1_aae02, 1, (some .boolean), KJ0_isLatin1_aae02) := mPq_of 539 [[530], [], [], [1939], [], [], [], [], []] rfl (by decide +kernel) (by decide +kernel)
set_option maxRecDepth 100000 in
theorem okq_39 : mPq mtab (yJ3_checkIndex_8e157, cJ3_checkIndex_8e157, 3, (some .int), KJ3_checkIndex_8e157) := mPq_of 550 [[], [], [], [], [], [], [], [], [], [], [], []] rfl (by decide +kernel) (by decide +kernel)
set_option maxRecDepth 100000 in
theorem okq_40 : mPq mtab (yJ0_checkIndex_df160, cJ0_checkIndex_df160, 2, none, KJ0_checkIndex_df160) := mPq_of 545 [[], [], [546], [124, 548, 549], [], []] rfl (by decide +kernel) (by decide +kernel)
set_option maxRecDepth 100000 in
theorem okq_41 : mPq mtab (yJ1_charAt_3b067, cJ1_charAt_3b067, 2, (some .char), KJ1_charAt_3b067) := mPq_of 542 [[], [], [], [122, 543, 544], [], [], [], [], [], [], []] rfl (by decide +kernel) (by decide +kernel)
set_option maxRecDepth 100000 in
theorem okq_42 : mPq mtab (yJ2_length_9d52b, cJ2_length_9d52b, 1, (some .int), KJ2_length_9d52b) := mPq_of 559 [[], [], [], [], []] rfl (by decide +kernel) (by decide +kernel)
set_option maxRecDepth 100000 in
theorem okq_43 : mPq mtab (yJ2_checkIndex_2214a, cJ2_checkIndex_2214a, 2, none, KJ2_checkIndex_2214a) := mPq_of 556 [[], [], [125, 557, 558], [122, 560, 544], []] rfl (by decide +kernel) (by decide +kernel)
set_option maxRecDepth 100000 in
theorem okq_44 : mPq mtab (yJ2_getChar_3b067, cJ2_getChar_3b067, 2, (some .char), KJ2_getChar_3b067) := mPq_of 563 [[], [], [], [], [], [], [125, 557, 558], [], [], [], [], [], [], [], [], [], [], [], [], [], [], [], [], [], [], [], [], [], [], [], [], [], [], [], []] rfl (by decide +kernel) (by decide +kernel)
set_option maxRecDepth 100000 in
theorem okq_45 : mPq mtab (yJ2_charAt_3b067, cJ2_charAt_3b067, 2, (some .char), KJ2_charAt_3b067) := mPq_of 553 [[], [], [125, 554, 555], [], [], [125, 561, 562], []] rfl (by decide +kernel) (by decide +kernel)
set_option maxRecDepth 100000 in
theorem okq_46 : mPq mtab (yJ0_charAt_5068e, cJ0_charAt_5068e, 2, (some .char), KJ0_charAt_5068e) := mPq_of 535 [[], [122, 536, 537, 538], [], [], [1938], [], [123, 540, 541], [], [], [1938], [], [125, 551, 552], []] rfl (by decide +kernel) (by decide +kernel)
set_option maxRecDepth 100000 in
theorem okq_47 : mPq mtab (yX7_wordAt, cX7_wordAt, 8, (some .int), KX7_wordAt) := mPq_of 520 [[], [], [], [], [], [], [], [], [], [], [122, 522, 523, 524], [], [], [], [122, 532, 533, 534], [], [], [], [], [], [], [], [], [], [], [], [], [], [], [], [], [], [], [], [], [], [], [], [293], [], [], [], [], [], [], [], [], [], [], [], []] rfl (by decide +kernel) (by decide +kernel)
theorem okc_2 : ∀ q ∈ mtab_2, mPq mtab q := List.forall_mem_cons.mpr ⟨okq_32, List.forall_mem_cons.mpr ⟨okq_33, List.forall_mem_cons.mpr ⟨okq_34, List.forall_mem_cons.mpr ⟨okq_35, List.forall_mem_cons.mpr ⟨okq_36, List.forall_mem_cons.mpr ⟨okq_37, List.forall_mem_cons.mpr ⟨okq_38, List.forall_mem_cons.mpr ⟨okq_39, List.forall_mem_cons.mpr ⟨okq_40, List.forall_mem_cons.mpr ⟨okq_41, List.forall_mem_cons.mpr ⟨okq_42, List.forall_mem_cons.mpr ⟨okq_43, List.forall_mem_cons.mpr ⟨okq_44, List.forall_mem_cons.mpr ⟨okq_45, List.forall_mem_cons.mpr ⟨okq_46, List.forall_mem_cons.mpr ⟨okq_47, fun _ h => absurd h List.not_mem_nil⟩⟩⟩⟩⟩⟩⟩⟩⟩⟩⟩⟩⟩⟩⟩⟩
