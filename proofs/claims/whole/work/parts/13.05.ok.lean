/-! THE CODES ARE GOOD: part 4 (written by wip/gen/code12.py) -/
set_option maxRecDepth 100000 in
theorem okq_64 : mPq mtab (yX7_isSign, cX7_isSign, 1, (some .boolean), KX7_isSign) := mPq_of 576 [[], [], [], [122, 578, 579, 580], [], [], [], [], []] rfl (by decide +kernel) (by decide +kernel)
set_option maxRecDepth 100000 in
theorem okq_65 : mPq mtab (yX7_cutSign, cX7_cutSign, 4, (some .int), KX7_cutSign) := mPq_of 573 [[], [293], [], [], [], [], [], [], [], [294], [], [], [293], [], [], [], [], [], [], [], [], [], [], [], [], [], [], [], [], [], [], [], [], [], [], [], [], [], [], [], [116, 506, 508, 2], [], [], [], [], [], [], [116, 574, 575], [], [], [], [], [], [], [116, 506, 508, 2], [], [], [], []] rfl (by decide +kernel) (by decide +kernel)
set_option maxRecDepth 100000 in
theorem okq_66 : mPq mtab (yX7_cutOne, cX7_cutOne, 2, (some .int), KX7_cutOne) := mPq_of 495 [[], [293], [], [], [116, 496, 497], [], [], [], [116, 499, 501, 1], [], [], [293], [], [], [116, 510, 511], [], [], [], [116, 513, 515, 3], [], [], [], [116, 570, 572, 5], []] rfl (by decide +kernel) (by decide +kernel)
set_option maxRecDepth 100000 in
theorem okq_67 : mPq mtab (yX7_cut, cX7_cut, 3, none, KX7_cut) := mPq_of 488 [[], [], [302], [], [], [], [], [], [], [], [], [], [294], [], [], [293], [], [], [116, 489, 490], [], [], [], [], [], [], [], [116, 492, 494, 0], [], [], [], [], [], [], [294], [], [116, 506, 508, 2], []] rfl (by decide +kernel) (by decide +kernel)
set_option maxRecDepth 100000 in
theorem okq_68 : mPq mtab (yX4_kind, cX4_kind, 1, (some .int), KX4_kind) := mPq_of 638 [[], [323], [297], [], [328], [], []] rfl (by decide +kernel) (by decide +kernel)
set_option maxRecDepth 100000 in
theorem okq_69 : mPq mtab (yX4_refuse, cX4_refuse, 2, (some .boolean), KX4_refuse) := mPq_of 647 [[], [], [334], [], [], [323], [299], [], [328], [], [336], [], []] rfl (by decide +kernel) (by decide +kernel)
set_option maxRecDepth 100000 in
theorem okq_70 : mPq mtab (yX4_advance, cX4_advance, 1, none, KX4_advance) := mPq_of 651 [[], [328], [], [], [], [323], [303], [], [], [], [328], [], [], [328], []] rfl (by decide +kernel) (by decide +kernel)
set_option maxRecDepth 100000 in
theorem okq_71 : mPq mtab (yX4_emit, cX4_emit, 3, (some .int), KX4_emit) := mPq_of 671 [[], [330], [], [], [], [327], [], [330], [], [], [], [], [], [], [], [], [330], [], [], [330], [], [330], [], [], []] rfl (by decide +kernel) (by decide +kernel)
set_option maxRecDepth 100000 in
theorem okq_72 : mPq mtab (yX4_numeral, cX4_numeral, 1, (some .boolean), KX4_numeral) := mPq_of 667 [[], [323], [301], [], [328], [], [], [], [], [], [117, 644, 646, 8], [], [], [], [], [323], [301], [], [328], [], [117, 668, 670, 14], [], [], [117, 648, 650, 9], [], []] rfl (by decide +kernel) (by decide +kernel)
set_option maxRecDepth 100000 in
theorem okq_73 : mPq mtab (yX4_name, cX4_name, 2, (some .boolean), KX4_name) := mPq_of 675 [[], [], [], [], [331], [], [], [], [117, 644, 646, 8], [], [], [], [], [], [], [117, 668, 670, 14], [], [], [117, 648, 650, 9], [], []] rfl (by decide +kernel) (by decide +kernel)
set_option maxRecDepth 100000 in
theorem okq_74 : mPq mtab (yX4_expect, cX4_expect, 2, (some .boolean), KX4_expect) := mPq_of 679 [[], [117, 635, 637, 6], [], [], [], [], [117, 644, 646, 8], [], [], [117, 648, 650, 9], [], []] rfl (by decide +kernel) (by decide +kernel)
set_option maxRecDepth 100000 in
theorem okq_75 : mPq mtab (yX4_denial, cX4_denial, 3, (some .boolean), KX4_denial) := mPq_of 699 [[], [], [], [], [], [117, 644, 646, 8], [], [], [117, 648, 650, 9], [], [], [], [], [117, 692, 694, 20], [], [], [], [], [117, 668, 670, 14], [], [], []] rfl (by decide +kernel) (by decide +kernel)
set_option maxRecDepth 100000 in
theorem okq_76 : mPq mtab (yX4_comparison, cX4_comparison, 1, (some .int), KX4_comparison) := mPq_of 702 [[], [], [], [], [], [], [], [], [], [], [], [], [], [], [], []] rfl (by decide +kernel) (by decide +kernel)
set_option maxRecDepth 100000 in
theorem okq_77 : mPq mtab (yX4_ask, cX4_ask, 4, (some .boolean), KX4_ask) := mPq_of 695 [[], [117, 635, 637, 6], [], [], [], [], [117, 696, 698, 21], [], [], [], [117, 652, 654, 10], [], [], [], [], [117, 635, 637, 6], [117, 700, 701], [], [], [], [], [], [], [117, 644, 646, 8], [], [], [117, 648, 650, 9], [], [], [117, 652, 654, 10], [], [], [], [], [117, 668, 670, 14], [], [], []] rfl (by decide +kernel) (by decide +kernel)
set_option maxRecDepth 100000 in
theorem okq_78 : mPq mtab (yX4_both, cX4_both, 4, (some .boolean), KX4_both) := mPq_of 691 [[], [], [117, 692, 694, 20], [], [], [], [], [], [], [], [], [], [117, 635, 637, 6], [], [], [], [117, 648, 650, 9], [], [], [117, 692, 694, 20], [], [], [], [], [117, 668, 670, 14], [], [], [], [], []] rfl (by decide +kernel) (by decide +kernel)
set_option maxRecDepth 100000 in
theorem okq_79 : mPq mtab (yX4_either, cX4_either, 4, (some .boolean), KX4_either) := mPq_of 687 [[], [], [117, 688, 690, 19], [], [], [], [], [], [], [], [], [], [117, 635, 637, 6], [], [], [], [117, 648, 650, 9], [], [], [117, 688, 690, 19], [], [], [], [], [117, 668, 670, 14], [], [], [], [], []] rfl (by decide +kernel) (by decide +kernel)
theorem okc_4 : ∀ q ∈ mtab_4, mPq mtab q := List.forall_mem_cons.mpr ⟨okq_64, List.forall_mem_cons.mpr ⟨okq_65, List.forall_mem_cons.mpr ⟨okq_66, List.forall_mem_cons.mpr ⟨okq_67, List.forall_mem_cons.mpr ⟨okq_68, List.forall_mem_cons.mpr ⟨okq_69, List.forall_mem_cons.mpr ⟨okq_70, List.forall_mem_cons.mpr ⟨okq_71, List.forall_mem_cons.mpr ⟨okq_72, List.forall_mem_cons.mpr ⟨okq_73, List.forall_mem_cons.mpr ⟨okq_74, List.forall_mem_cons.mpr ⟨okq_75, List.forall_mem_cons.mpr ⟨okq_76, List.forall_mem_cons.mpr ⟨okq_77, List.forall_mem_cons.mpr ⟨okq_78, List.forall_mem_cons.mpr ⟨okq_79, fun _ h => absurd h List.not_mem_nil⟩⟩⟩⟩⟩⟩⟩⟩⟩⟩⟩⟩⟩⟩⟩⟩
