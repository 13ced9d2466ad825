/-! THE CODES ARE GOOD: part 3 (written by wip/gen/code12.py) -/
set_option maxRecDepth 100000 in
theorem okq_48 : mPq jtab (yX7_cutWord, cX7_cutWord, 4, (some .int), KX7_cutWord) := mPq_of 498 [[], [], [], [], [], [], [301], [], [], [300], [], [], [118, 492, 493], [], [], [], [], [], [], [], [], [], [], [], [118, 499, 501, 4], [], [], [118, 488, 490, 2], [], []] rfl (by decide +kernel) (by decide +kernel)
set_option maxRecDepth 100000 in
theorem okq_49 : mPq jtab (yJ1_canEncode_9a6ad, cJ1_canEncode_9a6ad, 1, (some .boolean), KJ1_canEncode_9a6ad) := mPq_of 574 [[], [], [], [], [], [], [], [], []] rfl (by decide +kernel) (by decide +kernel)
set_option maxRecDepth 100000 in
theorem okq_50 : mPq jtab (yJ1_indexOfChar_4cfef, cJ1_indexOfChar_4cfef, 6, (some .int), KJ1_indexOfChar_4cfef) := mPq_of 581 [[], [], [], [], [], [], [], [], [], [], [], [], [], [], [], [], [], [], []] rfl (by decide +kernel) (by decide +kernel)
set_option maxRecDepth 100000 in
theorem okq_51 : mPq jtab (yJ1_indexOf_4cfef, cJ1_indexOf_4cfef, 4, (some .int), KJ1_indexOf_4cfef) := mPq_of 571 [[], [123, 572, 573], [], [], [], [], [], [121, 575, 576, 577], [], [], [], [], [121, 578, 486, 487], [], [], [], [], [], [], [], [], [], [], [123, 579, 580], []] rfl (by decide +kernel) (by decide +kernel)
set_option maxRecDepth 100000 in
theorem okq_52 : mPq jtab (yJ3_checkFromToIndex_8c36e, cJ3_checkFromToIndex_8c36e, 4, (some .int), KJ3_checkFromToIndex_8c36e) := mPq_of 599 [[], [], [], [], [], [], [], [], [], [], [], [], [], [], [], []] rfl (by decide +kernel) (by decide +kernel)
set_option maxRecDepth 100000 in
theorem okq_53 : mPq jtab (yJ0_checkBoundsBeginEnd_23922, cJ0_checkBoundsBeginEnd_23922, 3, none, KJ0_checkBoundsBeginEnd_23922) := mPq_of 596 [[], [], [], [528], [124, 597, 598], [], []] rfl (by decide +kernel) (by decide +kernel)
set_option maxRecDepth 100000 in
theorem okq_54 : mPq jtab (yJ2_checkBoundsBeginEnd_d044e, cJ2_checkBoundsBeginEnd_d044e, 3, none, KJ2_checkBoundsBeginEnd_d044e) := mPq_of 593 [[], [], [], [125, 539, 540], [122, 594, 595], []] rfl (by decide +kernel) (by decide +kernel)
set_option maxRecDepth 100000 in
theorem okq_55 : mPq jtab (yJ2_indexOfCharUnsafe_4cfef, cJ2_indexOfCharUnsafe_4cfef, 5, (some .int), KJ2_indexOfCharUnsafe_4cfef) := mPq_of 602 [[], [], [], [], [], [], [], [125, 543, 544], [], [], [], [], [], [], [], []] rfl (by decide +kernel) (by decide +kernel)
set_option maxRecDepth 100000 in
theorem okq_56 : mPq jtab (yJ2_indexOfChar_4cfef, cJ2_indexOfChar_4cfef, 4, (some .int), KJ2_indexOfChar_4cfef) := mPq_of 590 [[], [], [], [125, 591, 592], [], [], [], [], [125, 600, 601], []] rfl (by decide +kernel) (by decide +kernel)
set_option maxRecDepth 100000 in
theorem okq_57 : mPq jtab (yJ11_isValidCodePoint_9a6ad, cJ11_isValidCodePoint_9a6ad, 2, (some .boolean), KJ11_isValidCodePoint_9a6ad) := mPq_of 608 [[], [], [], [], [], [], [], [], [], [], []] rfl (by decide +kernel) (by decide +kernel)
set_option maxRecDepth 100000 in
theorem okq_58 : mPq jtab (yJ11_highSurrogate_5068e, cJ11_highSurrogate_5068e, 1, (some .char), KJ11_highSurrogate_5068e) := mPq_of 611 [[], [], [], [612], [], [], []] rfl (by decide +kernel) (by decide +kernel)
set_option maxRecDepth 100000 in
theorem okq_59 : mPq jtab (yJ11_lowSurrogate_5068e, cJ11_lowSurrogate_5068e, 1, (some .char), KJ11_lowSurrogate_5068e) := mPq_of 615 [[], [], [], [616], [], [], []] rfl (by decide +kernel) (by decide +kernel)
set_option maxRecDepth 100000 in
theorem okq_60 : mPq jtab (yJ2_indexOfSupplementary_4cfef, cJ2_indexOfSupplementary_4cfef, 7, (some .int), KJ2_indexOfSupplementary_4cfef) := mPq_of 605 [[], [126, 606, 607], [], [], [126, 609, 610], [], [], [126, 613, 614], [], [], [], [], [125, 591, 592], [], [], [], [], [], [], [], [], [], [125, 543, 544], [], [], [], [], [], [], [125, 543, 544], [], [], [], [], [], [], [], []] rfl (by decide +kernel) (by decide +kernel)
set_option maxRecDepth 100000 in
theorem okq_61 : mPq jtab (yJ2_indexOf_4cfef, cJ2_indexOf_4cfef, 4, (some .int), KJ2_indexOf_4cfef) := mPq_of 584 [[], [], [121, 585, 576, 577], [], [], [], [], [], [], [121, 586, 486, 487], [], [], [], [], [], [], [], [587], [], [], [], [], [], [125, 588, 589], [], [], [], [], [], [125, 603, 604], []] rfl (by decide +kernel) (by decide +kernel)
set_option maxRecDepth 100000 in
theorem okq_62 : mPq jtab (yJ0_indexOf_7cf53, cJ0_indexOf_7cf53, 3, (some .int), KJ0_indexOf_7cf53) := mPq_of 567 [[], [122, 518, 519, 520], [], [], [1944], [], [], [], [122, 568, 505, 506], [123, 569, 570], [], [], [1944], [], [], [], [122, 568, 505, 506], [125, 582, 583], []] rfl (by decide +kernel) (by decide +kernel)
set_option maxRecDepth 100000 in
theorem okq_63 : mPq jtab (yJ0_indexOf_0f7a4, cJ0_indexOf_0f7a4, 2, (some .int), KJ0_indexOf_0f7a4) := mPq_of 563 [[], [], [], [122, 564, 565, 566], []] rfl (by decide +kernel) (by decide +kernel)
theorem okc_3 : ∀ q ∈ jtab_3, mPq jtab q := List.forall_mem_cons.mpr ⟨okq_48, List.forall_mem_cons.mpr ⟨okq_49, List.forall_mem_cons.mpr ⟨okq_50, List.forall_mem_cons.mpr ⟨okq_51, List.forall_mem_cons.mpr ⟨okq_52, List.forall_mem_cons.mpr ⟨okq_53, List.forall_mem_cons.mpr ⟨okq_54, List.forall_mem_cons.mpr ⟨okq_55, List.forall_mem_cons.mpr ⟨okq_56, List.forall_mem_cons.mpr ⟨okq_57, List.forall_mem_cons.mpr ⟨okq_58, List.forall_mem_cons.mpr ⟨okq_59, List.forall_mem_cons.mpr ⟨okq_60, List.forall_mem_cons.mpr ⟨okq_61, List.forall_mem_cons.mpr ⟨okq_62, List.forall_mem_cons.mpr ⟨okq_63, fun _ h => absurd h List.not_mem_nil⟩⟩⟩⟩⟩⟩⟩⟩⟩⟩⟩⟩⟩⟩⟩⟩
