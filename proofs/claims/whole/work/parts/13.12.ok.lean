/-! THE CODES ARE GOOD: part 11 (written by wip/gen/code12.py) -/
set_option maxRecDepth 100000 in
theorem okq_176 : mPq mtab (yX11_walk, cX11_walk, 3, (some .boolean), KX11_walk) := mPq_of 1553 [[], [], [], [120, 1554, 1556, 61], [], [], [], [], [120, 1647, 1649, 78], [], [], [], [120, 1565, 1567, 63], [], []] rfl (by decide +kernel) (by decide +kernel)
set_option maxRecDepth 100000 in
theorem okq_177 : mPq mtab (yX9_goPaired, cX9_goPaired, 7, (some .boolean), KX9_goPaired) := mPq_of 874 [[], [], [], [], [], [113, 452, 453, 454], [], [], [], [113, 452, 453, 454], [], [], [], [], [160], [], [], [], [], [160], [], [], [], [], [], [], [113, 816, 817, 818], [], [], [], [], [113, 816, 817, 818], [], [], [113, 820, 821, 822], [], [], [], [], [160], [], [], [], [], [160], [], [], [], [], []] rfl (by decide +kernel) (by decide +kernel)
set_option maxRecDepth 100000 in
theorem okq_178 : mPq mtab (yX0_walksPaired, cX0_walksPaired, 5, (some .boolean), KX0_walksPaired) := mPq_of 870 [[], [252], [], [250], [114, 807, 808, 809], [], [252], [], [250], [], [], [], [], [113, 871, 872, 873], [114, 859, 860, 861], []] rfl (by decide +kernel) (by decide +kernel)
set_option maxRecDepth 100000 in
theorem okq_179 : mPq mtab (yX10_pair, cX10_pair, 5, (some .boolean), KX10_pair) := mPq_of 866 [[], [411], [], [], [], [], [112, 867, 868, 869], []] rfl (by decide +kernel) (by decide +kernel)
set_option maxRecDepth 100000 in
theorem okq_180 : mPq mtab (yX11_canPair, cX11_canPair, 6, (some .boolean), KX11_canPair) := mPq_of 1658 [[], [], [], [], [], [], [120, 1558, 1560, 62], [], [], [], [], [120, 1558, 1560, 62], [], [], [], [], [], [], [120, 1565, 1567, 63], [], [], [], [120, 1565, 1567, 63], [], [120, 1569, 1571, 64], [], [], [], [], [], [], [], [], [], [], [], [], [120, 1565, 1567, 63], [], [], [], [], [], [], [], [120, 1565, 1567, 63], [], []] rfl (by decide +kernel) (by decide +kernel)
set_option maxRecDepth 100000 in
theorem okq_181 : mPq mtab (yX11_pair, cX11_pair, 5, (some .boolean), KX11_pair) := mPq_of 1654 [[], [], [], [], [], [120, 1655, 1657, 79], [], [], [], [], [120, 1647, 1649, 78], [], [], [], [120, 1565, 1567, 63], [], [], [], [120, 1565, 1567, 63], [], []] rfl (by decide +kernel) (by decide +kernel)
set_option maxRecDepth 100000 in
theorem okq_182 : mPq mtab (yX9_clear, cX9_clear, 3, (some .boolean), KX9_clear) := mPq_of 886 [[], [166], [], [], [], [], [], [], [], [166], [], [], [], [], [], [], [], [113, 820, 821, 822], [], [], [], [], [166], [], [], [], [], [], [], [], []] rfl (by decide +kernel) (by decide +kernel)
set_option maxRecDepth 100000 in
theorem okq_183 : mPq mtab (yX0_shovels, cX0_shovels, 3, (some .boolean), KX0_shovels) := mPq_of 882 [[], [252], [], [250], [114, 807, 808, 809], [], [252], [], [250], [], [], [113, 883, 884, 885], [114, 859, 860, 861], []] rfl (by decide +kernel) (by decide +kernel)
set_option maxRecDepth 100000 in
theorem okq_184 : mPq mtab (yX10_shovel, cX10_shovel, 3, (some .boolean), KX10_shovel) := mPq_of 878 [[], [], [], [111, 437, 438], [], [], [], [], [111, 437, 438], [], [], [], [], [411], [], [], [112, 879, 880, 881], []] rfl (by decide +kernel) (by decide +kernel)
set_option maxRecDepth 100000 in
theorem okq_185 : mPq mtab (yX11_canShovel, cX11_canShovel, 4, (some .boolean), KX11_canShovel) := mPq_of 1666 [[], [120, 1379, 1380], [], [], [], [], [120, 1376, 1377], [], [], [1272], [], [], [], [], [], [], [], [], [], [1272], [], [], [], [], [], [], [], [], [], [120, 1569, 1571, 64], [], [], [], [], [], [], [1272], [], [], [], [], [], [], [], [], [], []] rfl (by decide +kernel) (by decide +kernel)
set_option maxRecDepth 100000 in
theorem okq_186 : mPq mtab (yX11_shovel, cX11_shovel, 3, (some .boolean), KX11_shovel) := mPq_of 1662 [[], [], [], [120, 1663, 1665, 80], [], [], [], [], [120, 1647, 1649, 78], [], [1272], [], [], [], [], [], [], [], [], [], []] rfl (by decide +kernel) (by decide +kernel)
set_option maxRecDepth 100000 in
theorem okq_187 : mPq mtab (yX9_draw, cX9_draw, 2, (some .int), KX9_draw) := mPq_of 902 [[], [173], [], [], [], [173], [], [], [], [], [], [], [173], [], []] rfl (by decide +kernel) (by decide +kernel)
set_option maxRecDepth 100000 in
theorem okq_188 : mPq mtab (yX9_slidesBy, cX9_slidesBy, 3, (some .int), KX9_slidesBy) := mPq_of 910 [[], [], [], [760], [], [], [], [], [760], [], [], [127, 835, 836, 837], [], [121, 857, 594, 595], [], [121, 858, 504, 505], []] rfl (by decide +kernel) (by decide +kernel)
set_option maxRecDepth 100000 in
theorem okq_189 : mPq mtab (yX9_write, cX9_write, 4, none, KX9_write) := mPq_of 914 [[], [178], [], [], [], [176], [], [], [176], [], [], [915, 738, 737, 129], [], [], [178], [], [176], [], [178], [], [169], [], [], [], [], [], [], [], [], [], [], [], [], [], [], [], [178], [], [], [178], []] rfl (by decide +kernel) (by decide +kernel)
set_option maxRecDepth 100000 in
theorem okq_190 : mPq mtab (yX9_slideAll, cX9_slideAll, 6, none, KX9_slideAll) := mPq_of 906 [[], [], [], [], [152], [], [], [160], [], [], [], [], [], [181], [], [113, 907, 908, 909], [], [], [], [], [], [], [], [121, 858, 504, 505], [], [], [], [], [], [121, 857, 594, 595], [], [], [], [], [], [], [], [], [113, 911, 912, 913], [], [160], [], [], [], [], [], []] rfl (by decide +kernel) (by decide +kernel)
set_option maxRecDepth 100000 in
theorem okq_191 : mPq mtab (yX9_passHour, cX9_passHour, 4, (some .boolean), KX9_passHour) := mPq_of 898 [[], [113, 899, 900, 901], [], [], [], [], [166], [], [], [166], [], [], [], [], [], [121, 858, 504, 505], [], [], [113, 824, 825, 826], [], [], [121, 828, 829, 830], [], [113, 831, 832, 833], [], [], [], [], [], [], [], [], [], [], [], [], [], [113, 903, 904, 905], [], [], [169], [], [], [169], [], []] rfl (by decide +kernel) (by decide +kernel)
theorem okc_11 : ∀ q ∈ mtab_11, mPq mtab q := List.forall_mem_cons.mpr ⟨okq_176, List.forall_mem_cons.mpr ⟨okq_177, List.forall_mem_cons.mpr ⟨okq_178, List.forall_mem_cons.mpr ⟨okq_179, List.forall_mem_cons.mpr ⟨okq_180, List.forall_mem_cons.mpr ⟨okq_181, List.forall_mem_cons.mpr ⟨okq_182, List.forall_mem_cons.mpr ⟨okq_183, List.forall_mem_cons.mpr ⟨okq_184, List.forall_mem_cons.mpr ⟨okq_185, List.forall_mem_cons.mpr ⟨okq_186, List.forall_mem_cons.mpr ⟨okq_187, List.forall_mem_cons.mpr ⟨okq_188, List.forall_mem_cons.mpr ⟨okq_189, List.forall_mem_cons.mpr ⟨okq_190, List.forall_mem_cons.mpr ⟨okq_191, fun _ h => absurd h List.not_mem_nil⟩⟩⟩⟩⟩⟩⟩⟩⟩⟩⟩⟩⟩⟩⟩⟩
