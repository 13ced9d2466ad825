/-! THE CODES ARE GOOD: part 2 (written by wip/gen/code12.py) -/
set_option maxRecDepth 100000 in
theorem okq_32 : mPq jtab (yX7_isDigit, cX7_isDigit, 1, (some .boolean), KX7_isDigit) := mPq_of 480 [[], [], [], [], [], [], [], [], [], []] rfl (by decide +kernel) (by decide +kernel)
set_option maxRecDepth 100000 in
theorem okq_33 : mPq jtab (yX7_add, cX7_add, 4, none, KX7_add) := mPq_of 491 [[], [309], [], [], [], [303], [], [309], [], [], [], [305], [], [309], [], [], [], [307], [], [309], [], [], [], [], [309], [], [], [309], []] rfl (by decide +kernel) (by decide +kernel)
set_option maxRecDepth 100000 in
theorem okq_34 : mPq jtab (yX7_cutNumber, cX7_cutNumber, 5, (some .int), KX7_cutNumber) := mPq_of 484 [[], [], [], [], [], [], [], [], [301], [], [], [300], [], [], [118, 478, 479], [], [], [], [], [], [300], [], [], [], [], [], [], [121, 485, 486, 487], [], [], [], [], [], [], [], [], [], [], [], [118, 488, 490, 2], [], []] rfl (by decide +kernel) (by decide +kernel)
set_option maxRecDepth 100000 in
theorem okq_35 : mPq jtab (yX7_isLetter, cX7_isLetter, 1, (some .boolean), KX7_isLetter) := mPq_of 494 [[], [], [], [], [], [], [], [], [], [], [], [], [], [], [], []] rfl (by decide +kernel) (by decide +kernel)
set_option maxRecDepth 100000 in
theorem okq_36 : mPq jtab (yJ0_coder_7d493, cJ0_coder_7d493, 1, (some .byte), KJ0_coder_7d493) := mPq_of 511 [[512], [], [], [1945], [], [], []] rfl (by decide +kernel) (by decide +kernel)
set_option maxRecDepth 100000 in
theorem okq_37 : mPq jtab (yJ0_length_8abf5, cJ0_length_8abf5, 1, (some .int), KJ0_length_8abf5) := mPq_of 507 [[], [1944], [], [], [122, 508, 509, 510], [], []] rfl (by decide +kernel) (by decide +kernel)
set_option maxRecDepth 100000 in
theorem okq_38 : mPq jtab (yJ0_isLatin1_aae02, cJ0_isLatin1_aae02, 1, (some .boolean), KJ0_isLatin1_aae02) := mPq_of 521 [[512], [], [], [1945], [], [], [], [], []] rfl (by decide +kernel) (by decide +kernel)
set_option maxRecDepth 100000 in
theorem okq_39 : mPq jtab (yJ3_checkIndex_8e157, cJ3_checkIndex_8e157, 3, (some .int), KJ3_checkIndex_8e157) := mPq_of 532 [[], [], [], [], [], [], [], [], [], [], [], []] rfl (by decide +kernel) (by decide +kernel)
set_option maxRecDepth 100000 in
theorem okq_40 : mPq jtab (yJ0_checkIndex_df160, cJ0_checkIndex_df160, 2, none, KJ0_checkIndex_df160) := mPq_of 527 [[], [], [528], [124, 530, 531], [], []] rfl (by decide +kernel) (by decide +kernel)
set_option maxRecDepth 100000 in
theorem okq_41 : mPq jtab (yJ1_charAt_3b067, cJ1_charAt_3b067, 2, (some .char), KJ1_charAt_3b067) := mPq_of 524 [[], [], [], [122, 525, 526], [], [], [], [], [], [], []] rfl (by decide +kernel) (by decide +kernel)
set_option maxRecDepth 100000 in
theorem okq_42 : mPq jtab (yJ2_length_9d52b, cJ2_length_9d52b, 1, (some .int), KJ2_length_9d52b) := mPq_of 541 [[], [], [], [], []] rfl (by decide +kernel) (by decide +kernel)
set_option maxRecDepth 100000 in
theorem okq_43 : mPq jtab (yJ2_checkIndex_2214a, cJ2_checkIndex_2214a, 2, none, KJ2_checkIndex_2214a) := mPq_of 538 [[], [], [125, 539, 540], [122, 542, 526], []] rfl (by decide +kernel) (by decide +kernel)
set_option maxRecDepth 100000 in
theorem okq_44 : mPq jtab (yJ2_getChar_3b067, cJ2_getChar_3b067, 2, (some .char), KJ2_getChar_3b067) := mPq_of 545 [[], [], [], [], [], [], [125, 539, 540], [], [], [], [], [], [], [], [], [], [], [], [], [], [], [], [], [], [], [], [], [], [], [], [], [], [], [], []] rfl (by decide +kernel) (by decide +kernel)
set_option maxRecDepth 100000 in
theorem okq_45 : mPq jtab (yJ2_charAt_3b067, cJ2_charAt_3b067, 2, (some .char), KJ2_charAt_3b067) := mPq_of 535 [[], [], [125, 536, 537], [], [], [125, 543, 544], []] rfl (by decide +kernel) (by decide +kernel)
set_option maxRecDepth 100000 in
theorem okq_46 : mPq jtab (yJ0_charAt_5068e, cJ0_charAt_5068e, 2, (some .char), KJ0_charAt_5068e) := mPq_of 517 [[], [122, 518, 519, 520], [], [], [1944], [], [123, 522, 523], [], [], [1944], [], [125, 533, 534], []] rfl (by decide +kernel) (by decide +kernel)
set_option maxRecDepth 100000 in
theorem okq_47 : mPq jtab (yX7_wordAt, cX7_wordAt, 8, (some .int), KX7_wordAt) := mPq_of 502 [[], [], [], [], [], [], [], [], [], [], [122, 504, 505, 506], [], [], [], [122, 514, 515, 516], [], [], [], [], [], [], [], [], [], [], [], [], [], [], [], [], [], [], [], [], [], [], [], [300], [], [], [], [], [], [], [], [], [], [], [], []] rfl (by decide +kernel) (by decide +kernel)
theorem okc_2 : ∀ q ∈ jtab_2, mPq jtab q := List.forall_mem_cons.mpr ⟨okq_32, List.forall_mem_cons.mpr ⟨okq_33, List.forall_mem_cons.mpr ⟨okq_34, List.forall_mem_cons.mpr ⟨okq_35, List.forall_mem_cons.mpr ⟨okq_36, List.forall_mem_cons.mpr ⟨okq_37, List.forall_mem_cons.mpr ⟨okq_38, List.forall_mem_cons.mpr ⟨okq_39, List.forall_mem_cons.mpr ⟨okq_40, List.forall_mem_cons.mpr ⟨okq_41, List.forall_mem_cons.mpr ⟨okq_42, List.forall_mem_cons.mpr ⟨okq_43, List.forall_mem_cons.mpr ⟨okq_44, List.forall_mem_cons.mpr ⟨okq_45, List.forall_mem_cons.mpr ⟨okq_46, List.forall_mem_cons.mpr ⟨okq_47, fun _ h => absurd h List.not_mem_nil⟩⟩⟩⟩⟩⟩⟩⟩⟩⟩⟩⟩⟩⟩⟩⟩
