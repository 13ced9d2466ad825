/-! THE CODES ARE GOOD: part 4 (written by wip/gen/code12.py) -/
set_option maxRecDepth 100000 in
theorem okq_64 : mPq jtab (yX7_isSign, cX7_isSign, 1, (some .boolean), KX7_isSign) := mPq_of 558 [[], [], [], [122, 560, 561, 562], [], [], [], [], []] rfl (by decide +kernel) (by decide +kernel)
set_option maxRecDepth 100000 in
theorem okq_65 : mPq jtab (yX7_cutSign, cX7_cutSign, 4, (some .int), KX7_cutSign) := mPq_of 555 [[], [300], [], [], [], [], [], [], [], [301], [], [], [300], [], [], [], [], [], [], [], [], [], [], [], [], [], [], [], [], [], [], [], [], [], [], [], [], [], [], [], [118, 488, 490, 2], [], [], [], [], [], [], [118, 556, 557], [], [], [], [], [], [], [118, 488, 490, 2], [], [], [], []] rfl (by decide +kernel) (by decide +kernel)
set_option maxRecDepth 100000 in
theorem okq_66 : mPq jtab (yX7_cutOne, cX7_cutOne, 2, (some .int), KX7_cutOne) := mPq_of 477 [[], [300], [], [], [118, 478, 479], [], [], [], [118, 481, 483, 1], [], [], [300], [], [], [118, 492, 493], [], [], [], [118, 495, 497, 3], [], [], [], [118, 552, 554, 5], []] rfl (by decide +kernel) (by decide +kernel)
set_option maxRecDepth 100000 in
theorem okq_67 : mPq jtab (yX7_cut, cX7_cut, 3, none, KX7_cut) := mPq_of 470 [[], [], [309], [], [], [], [], [], [], [], [], [], [301], [], [], [300], [], [], [118, 471, 472], [], [], [], [], [], [], [], [118, 474, 476, 0], [], [], [], [], [], [], [301], [], [118, 488, 490, 2], []] rfl (by decide +kernel) (by decide +kernel)
set_option maxRecDepth 100000 in
theorem okq_68 : mPq jtab (yX4_kind, cX4_kind, 1, (some .int), KX4_kind) := mPq_of 620 [[], [324], [304], [], [330], [], []] rfl (by decide +kernel) (by decide +kernel)
set_option maxRecDepth 100000 in
theorem okq_69 : mPq jtab (yX4_refuse, cX4_refuse, 2, (some .boolean), KX4_refuse) := mPq_of 629 [[], [], [336], [], [], [324], [306], [], [330], [], [338], [], []] rfl (by decide +kernel) (by decide +kernel)
set_option maxRecDepth 100000 in
theorem okq_70 : mPq jtab (yX4_advance, cX4_advance, 1, none, KX4_advance) := mPq_of 633 [[], [330], [], [], [], [324], [310], [], [], [], [330], [], [], [330], []] rfl (by decide +kernel) (by decide +kernel)
set_option maxRecDepth 100000 in
theorem okq_71 : mPq jtab (yX4_emit, cX4_emit, 3, (some .int), KX4_emit) := mPq_of 653 [[], [332], [], [], [], [329], [], [332], [], [], [], [], [], [], [], [], [332], [], [], [332], [], [332], [], [], []] rfl (by decide +kernel) (by decide +kernel)
set_option maxRecDepth 100000 in
theorem okq_72 : mPq jtab (yX4_numeral, cX4_numeral, 1, (some .boolean), KX4_numeral) := mPq_of 649 [[], [324], [308], [], [330], [], [], [], [], [], [117, 626, 628, 8], [], [], [], [], [324], [308], [], [330], [], [117, 650, 652, 14], [], [], [117, 630, 632, 9], [], []] rfl (by decide +kernel) (by decide +kernel)
set_option maxRecDepth 100000 in
theorem okq_73 : mPq jtab (yX4_name, cX4_name, 2, (some .boolean), KX4_name) := mPq_of 657 [[], [], [], [], [333], [], [], [], [117, 626, 628, 8], [], [], [], [], [], [], [117, 650, 652, 14], [], [], [117, 630, 632, 9], [], []] rfl (by decide +kernel) (by decide +kernel)
set_option maxRecDepth 100000 in
theorem okq_74 : mPq jtab (yX4_expect, cX4_expect, 2, (some .boolean), KX4_expect) := mPq_of 661 [[], [117, 617, 619, 6], [], [], [], [], [117, 626, 628, 8], [], [], [117, 630, 632, 9], [], []] rfl (by decide +kernel) (by decide +kernel)
set_option maxRecDepth 100000 in
theorem okq_75 : mPq jtab (yX4_denial, cX4_denial, 3, (some .boolean), KX4_denial) := mPq_of 681 [[], [], [], [], [], [117, 626, 628, 8], [], [], [117, 630, 632, 9], [], [], [], [], [117, 674, 676, 20], [], [], [], [], [117, 650, 652, 14], [], [], []] rfl (by decide +kernel) (by decide +kernel)
set_option maxRecDepth 100000 in
theorem okq_76 : mPq jtab (yX4_comparison, cX4_comparison, 1, (some .int), KX4_comparison) := mPq_of 684 [[], [], [], [], [], [], [], [], [], [], [], [], [], [], [], []] rfl (by decide +kernel) (by decide +kernel)
set_option maxRecDepth 100000 in
theorem okq_77 : mPq jtab (yX4_ask, cX4_ask, 4, (some .boolean), KX4_ask) := mPq_of 677 [[], [117, 617, 619, 6], [], [], [], [], [117, 678, 680, 21], [], [], [], [117, 634, 636, 10], [], [], [], [], [117, 617, 619, 6], [117, 682, 683], [], [], [], [], [], [], [117, 626, 628, 8], [], [], [117, 630, 632, 9], [], [], [117, 634, 636, 10], [], [], [], [], [117, 650, 652, 14], [], [], []] rfl (by decide +kernel) (by decide +kernel)
set_option maxRecDepth 100000 in
theorem okq_78 : mPq jtab (yX4_both, cX4_both, 4, (some .boolean), KX4_both) := mPq_of 673 [[], [], [117, 674, 676, 20], [], [], [], [], [], [], [], [], [], [117, 617, 619, 6], [], [], [], [117, 630, 632, 9], [], [], [117, 674, 676, 20], [], [], [], [], [117, 650, 652, 14], [], [], [], [], []] rfl (by decide +kernel) (by decide +kernel)
set_option maxRecDepth 100000 in
theorem okq_79 : mPq jtab (yX4_either, cX4_either, 4, (some .boolean), KX4_either) := mPq_of 669 [[], [], [117, 670, 672, 19], [], [], [], [], [], [], [], [], [], [117, 617, 619, 6], [], [], [], [117, 630, 632, 9], [], [], [117, 670, 672, 19], [], [], [], [], [117, 650, 652, 14], [], [], [], [], []] rfl (by decide +kernel) (by decide +kernel)
theorem okc_4 : ∀ q ∈ jtab_4, mPq jtab q := List.forall_mem_cons.mpr ⟨okq_64, List.forall_mem_cons.mpr ⟨okq_65, List.forall_mem_cons.mpr ⟨okq_66, List.forall_mem_cons.mpr ⟨okq_67, List.forall_mem_cons.mpr ⟨okq_68, List.forall_mem_cons.mpr ⟨okq_69, List.forall_mem_cons.mpr ⟨okq_70, List.forall_mem_cons.mpr ⟨okq_71, List.forall_mem_cons.mpr ⟨okq_72, List.forall_mem_cons.mpr ⟨okq_73, List.forall_mem_cons.mpr ⟨okq_74, List.forall_mem_cons.mpr ⟨okq_75, List.forall_mem_cons.mpr ⟨okq_76, List.forall_mem_cons.mpr ⟨okq_77, List.forall_mem_cons.mpr ⟨okq_78, List.forall_mem_cons.mpr ⟨okq_79, fun _ h => absurd h List.not_mem_nil⟩⟩⟩⟩⟩⟩⟩⟩⟩⟩⟩⟩⟩⟩⟩⟩
