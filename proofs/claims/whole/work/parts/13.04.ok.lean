/-! THE CODES ARE GOOD: part 3 (written by wip/gen/code12.py) -/
set_option maxRecDepth 100000 in
theorem okq_48 : mPq mtab (yX7_cutWord, cX7_cutWord, 4, (some .int), KX7_cutWord) := mPq_of 516 [[], [], [], [], [], [], [294], [], [], [293], [], [], [116, 510, 511], [], [], [], [], [], [], [], [], [], [], [], [116, 517, 519, 4], [], [], [116, 506, 508, 2], [], []] rfl (by decide +kernel) (by decide +kernel)
set_option maxRecDepth 100000 in
theorem okq_49 : mPq mtab (yJ1_canEncode_9a6ad, cJ1_canEncode_9a6ad, 1, (some .boolean), KJ1_canEncode_9a6ad) := mPq_of 592 [[], [], [], [], [], [], [], [], []] rfl (by decide +kernel) (by decide +kernel)
set_option maxRecDepth 100000 in
theorem okq_50 : mPq mtab (yJ1_indexOfChar_4cfef, cJ1_indexOfChar_4cfef, 6, (some .int), KJ1_indexOfChar_4cfef) := mPq_of 599 [[], [], [], [], [], [], [], [], [], [], [], [], [], [], [], [], [], [], []] rfl (by decide +kernel) (by decide +kernel)
set_option maxRecDepth 100000 in
theorem okq_51 : mPq mtab (yJ1_indexOf_4cfef, cJ1_indexOf_4cfef, 4, (some .int), KJ1_indexOf_4cfef) := mPq_of 589 [[], [123, 590, 591], [], [], [], [], [], [121, 593, 594, 595], [], [], [], [], [121, 596, 504, 505], [], [], [], [], [], [], [], [], [], [], [123, 597, 598], []] rfl (by decide +kernel) (by decide +kernel)
set_option maxRecDepth 100000 in
theorem okq_52 : mPq mtab (yJ3_checkFromToIndex_8c36e, cJ3_checkFromToIndex_8c36e, 4, (some .int), KJ3_checkFromToIndex_8c36e) := mPq_of 617 [[], [], [], [], [], [], [], [], [], [], [], [], [], [], [], []] rfl (by decide +kernel) (by decide +kernel)
set_option maxRecDepth 100000 in
theorem okq_53 : mPq mtab (yJ0_checkBoundsBeginEnd_23922, cJ0_checkBoundsBeginEnd_23922, 3, none, KJ0_checkBoundsBeginEnd_23922) := mPq_of 614 [[], [], [], [546], [124, 615, 616], [], []] rfl (by decide +kernel) (by decide +kernel)
set_option maxRecDepth 100000 in
theorem okq_54 : mPq mtab (yJ2_checkBoundsBeginEnd_d044e, cJ2_checkBoundsBeginEnd_d044e, 3, none, KJ2_checkBoundsBeginEnd_d044e) := mPq_of 611 [[], [], [], [125, 557, 558], [122, 612, 613], []] rfl (by decide +kernel) (by decide +kernel)
set_option maxRecDepth 100000 in
theorem okq_55 : mPq mtab (yJ2_indexOfCharUnsafe_4cfef, cJ2_indexOfCharUnsafe_4cfef, 5, (some .int), KJ2_indexOfCharUnsafe_4cfef) := mPq_of 620 [[], [], [], [], [], [], [], [125, 561, 562], [], [], [], [], [], [], [], []] rfl (by decide +kernel) (by decide +kernel)
set_option maxRecDepth 100000 in
theorem okq_56 : mPq mtab (yJ2_indexOfChar_4cfef, cJ2_indexOfChar_4cfef, 4, (some .int), KJ2_indexOfChar_4cfef) := mPq_of 608 [[], [], [], [125, 609, 610], [], [], [], [], [125, 618, 619], []] rfl (by decide +kernel) (by decide +kernel)
set_option maxRecDepth 100000 in
theorem okq_57 : mPq mtab (yJ11_isValidCodePoint_9a6ad, cJ11_isValidCodePoint_9a6ad, 2, (some .boolean), KJ11_isValidCodePoint_9a6ad) := mPq_of 626 [[], [], [], [], [], [], [], [], [], [], []] rfl (by decide +kernel) (by decide +kernel)
set_option maxRecDepth 100000 in
theorem okq_58 : mPq mtab (yJ11_highSurrogate_5068e, cJ11_highSurrogate_5068e, 1, (some .char), KJ11_highSurrogate_5068e) := mPq_of 629 [[], [], [], [630], [], [], []] rfl (by decide +kernel) (by decide +kernel)
set_option maxRecDepth 100000 in
theorem okq_59 : mPq mtab (yJ11_lowSurrogate_5068e, cJ11_lowSurrogate_5068e, 1, (some .char), KJ11_lowSurrogate_5068e) := mPq_of 633 [[], [], [], [634], [], [], []] rfl (by decide +kernel) (by decide +kernel)
set_option maxRecDepth 100000 in
theorem okq_60 : mPq mtab (yJ2_indexOfSupplementary_4cfef, cJ2_indexOfSupplementary_4cfef, 7, (some .int), KJ2_indexOfSupplementary_4cfef) := mPq_of 623 [[], [126, 624, 625], [], [], [126, 627, 628], [], [], [126, 631, 632], [], [], [], [], [125, 609, 610], [], [], [], [], [], [], [], [], [], [125, 561, 562], [], [], [], [], [], [], [125, 561, 562], [], [], [], [], [], [], [], []] rfl (by decide +kernel) (by decide +kernel)
set_option maxRecDepth 100000 in
theorem okq_61 : mPq mtab (yJ2_indexOf_4cfef, cJ2_indexOf_4cfef, 4, (some .int), KJ2_indexOf_4cfef) := mPq_of 602 [[], [], [121, 603, 594, 595], [], [], [], [], [], [], [121, 604, 504, 505], [], [], [], [], [], [], [], [605], [], [], [], [], [], [125, 606, 607], [], [], [], [], [], [125, 621, 622], []] rfl (by decide +kernel) (by decide +kernel)
set_option maxRecDepth 100000 in
theorem okq_62 : mPq mtab (yJ0_indexOf_7cf53, cJ0_indexOf_7cf53, 3, (some .int), KJ0_indexOf_7cf53) := mPq_of 585 [[], [122, 536, 537, 538], [], [], [1938], [], [], [], [122, 586, 523, 524], [123, 587, 588], [], [], [1938], [], [], [], [122, 586, 523, 524], [125, 600, 601], []] rfl (by decide +kernel) (by decide +kernel)
set_option maxRecDepth 100000 in
theorem okq_63 : mPq mtab (yJ0_indexOf_0f7a4, cJ0_indexOf_0f7a4, 2, (some .int), KJ0_indexOf_0f7a4) := mPq_of 581 [[], [], [], [122, 582, 583, 584], []] rfl (by decide +kernel) (by decide +kernel)
theorem okc_3 : ∀ q ∈ mtab_3, mPq mtab q := List.forall_mem_cons.mpr ⟨okq_48, List.forall_mem_cons.mpr ⟨okq_49, List.forall_mem_cons.mpr ⟨okq_50, List.forall_mem_cons.mpr ⟨okq_51, List.forall_mem_cons.mpr ⟨okq_52, List.forall_mem_cons.mpr ⟨okq_53, List.forall_mem_cons.mpr ⟨okq_54, List.forall_mem_cons.mpr ⟨okq_55, List.forall_mem_cons.mpr ⟨okq_56, List.forall_mem_cons.mpr ⟨okq_57, List.forall_mem_cons.mpr ⟨okq_58, List.forall_mem_cons.mpr ⟨okq_59, List.forall_mem_cons.mpr ⟨okq_60, List.forall_mem_cons.mpr ⟨okq_61, List.forall_mem_cons.mpr ⟨okq_62, List.forall_mem_cons.mpr ⟨okq_63, fun _ h => absurd h List.not_mem_nil⟩⟩⟩⟩⟩⟩⟩⟩⟩⟩⟩⟩⟩⟩⟩⟩
