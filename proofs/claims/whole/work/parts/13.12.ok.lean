/-! THE CODES ARE GOOD: part 11 (written by wip/gen/code12.py) -/
set_option maxRecDepth 100000 in
theorem okq_176 : mPq jtab (yX11_walk, cX11_walk, 3, (some .boolean), KX11_walk) := mPq_of 1559 [[], [], [], [120, 1560, 1562, 62], [], [], [], [], [120, 1653, 1655, 79], [], [], [], [120, 1571, 1573, 64], [], []] rfl (by decide +kernel) (by decide +kernel)
set_option maxRecDepth 100000 in
theorem okq_177 : mPq jtab (yX9_goPaired, cX9_goPaired, 7, (some .boolean), KX9_goPaired) := mPq_of 856 [[], [], [], [], [], [114, 434, 435, 436], [], [], [], [114, 434, 435, 436], [], [], [], [], [161], [], [], [], [], [161], [], [], [], [], [], [], [114, 798, 799, 800], [], [], [], [], [114, 798, 799, 800], [], [], [114, 802, 803, 804], [], [], [], [], [161], [], [], [], [], [161], [], [], [], [], []] rfl (by decide +kernel) (by decide +kernel)
set_option maxRecDepth 100000 in
theorem okq_178 : mPq jtab (yX0_walksPaired, cX0_walksPaired, 5, (some .boolean), KX0_walksPaired) := mPq_of 852 [[], [253], [], [251], [115, 789, 790, 791], [], [253], [], [251], [], [], [], [], [114, 853, 854, 855], [115, 841, 842, 843], []] rfl (by decide +kernel) (by decide +kernel)
set_option maxRecDepth 100000 in
theorem okq_179 : mPq jtab (yX10_pair, cX10_pair, 5, (some .boolean), KX10_pair) := mPq_of 848 [[], [393], [], [], [], [], [113, 849, 850, 851], []] rfl (by decide +kernel) (by decide +kernel)
set_option maxRecDepth 100000 in
theorem okq_180 : mPq jtab (yX11_canPair, cX11_canPair, 6, (some .boolean), KX11_canPair) := mPq_of 1664 [[], [], [], [], [], [], [120, 1564, 1566, 63], [], [], [], [], [120, 1564, 1566, 63], [], [], [], [], [], [], [120, 1571, 1573, 64], [], [], [], [120, 1571, 1573, 64], [], [120, 1575, 1577, 65], [], [], [], [], [], [], [], [], [], [], [], [], [120, 1571, 1573, 64], [], [], [], [], [], [], [], [120, 1571, 1573, 64], [], []] rfl (by decide +kernel) (by decide +kernel)
set_option maxRecDepth 100000 in
theorem okq_181 : mPq jtab (yX11_pair, cX11_pair, 5, (some .boolean), KX11_pair) := mPq_of 1660 [[], [], [], [], [], [120, 1661, 1663, 80], [], [], [], [], [120, 1653, 1655, 79], [], [], [], [120, 1571, 1573, 64], [], [], [], [120, 1571, 1573, 64], [], []] rfl (by decide +kernel) (by decide +kernel)
set_option maxRecDepth 100000 in
theorem okq_182 : mPq jtab (yX9_clear, cX9_clear, 3, (some .boolean), KX9_clear) := mPq_of 868 [[], [167], [], [], [], [], [], [], [], [167], [], [], [], [], [], [], [], [114, 802, 803, 804], [], [], [], [], [167], [], [], [], [], [], [], [], []] rfl (by decide +kernel) (by decide +kernel)
set_option maxRecDepth 100000 in
theorem okq_183 : mPq jtab (yX0_shovels, cX0_shovels, 3, (some .boolean), KX0_shovels) := mPq_of 864 [[], [253], [], [251], [115, 789, 790, 791], [], [253], [], [251], [], [], [114, 865, 866, 867], [115, 841, 842, 843], []] rfl (by decide +kernel) (by decide +kernel)
set_option maxRecDepth 100000 in
theorem okq_184 : mPq jtab (yX10_shovel, cX10_shovel, 3, (some .boolean), KX10_shovel) := mPq_of 860 [[], [], [], [112, 419, 420], [], [], [], [], [112, 419, 420], [], [], [], [], [393], [], [], [113, 861, 862, 863], []] rfl (by decide +kernel) (by decide +kernel)
set_option maxRecDepth 100000 in
theorem okq_185 : mPq jtab (yX11_canShovel, cX11_canShovel, 4, (some .boolean), KX11_canShovel) := mPq_of 1672 [[], [120, 1385, 1386], [], [], [], [], [120, 1382, 1383], [], [], [1278], [], [], [], [], [], [], [], [], [], [1278], [], [], [], [], [], [], [], [], [], [120, 1575, 1577, 65], [], [], [], [], [], [], [1278], [], [], [], [], [], [], [], [], [], []] rfl (by decide +kernel) (by decide +kernel)
set_option maxRecDepth 100000 in
theorem okq_186 : mPq jtab (yX11_shovel, cX11_shovel, 3, (some .boolean), KX11_shovel) := mPq_of 1668 [[], [], [], [120, 1669, 1671, 81], [], [], [], [], [120, 1653, 1655, 79], [], [1278], [], [], [], [], [], [], [], [], [], []] rfl (by decide +kernel) (by decide +kernel)
set_option maxRecDepth 100000 in
theorem okq_187 : mPq jtab (yX9_draw, cX9_draw, 2, (some .int), KX9_draw) := mPq_of 884 [[], [174], [], [], [], [174], [], [], [], [], [], [], [174], [], []] rfl (by decide +kernel) (by decide +kernel)
set_option maxRecDepth 100000 in
theorem okq_188 : mPq jtab (yX9_slidesBy, cX9_slidesBy, 3, (some .int), KX9_slidesBy) := mPq_of 892 [[], [], [], [742], [], [], [], [], [742], [], [], [127, 817, 818, 819], [], [121, 839, 576, 577], [], [121, 840, 486, 487], []] rfl (by decide +kernel) (by decide +kernel)
set_option maxRecDepth 100000 in
theorem okq_189 : mPq jtab (yX9_write, cX9_write, 4, none, KX9_write) := mPq_of 896 [[], [179], [], [], [], [177], [], [], [177], [], [], [897, 720, 719, 129], [], [], [179], [], [177], [], [179], [], [170], [], [], [], [], [], [], [], [], [], [], [], [], [], [], [], [179], [], [], [179], []] rfl (by decide +kernel) (by decide +kernel)
set_option maxRecDepth 100000 in
theorem okq_190 : mPq jtab (yX9_slideAll, cX9_slideAll, 6, none, KX9_slideAll) := mPq_of 888 [[], [], [], [], [153], [], [], [161], [], [], [], [], [], [182], [], [114, 889, 890, 891], [], [], [], [], [], [], [], [121, 840, 486, 487], [], [], [], [], [], [121, 839, 576, 577], [], [], [], [], [], [], [], [], [114, 893, 894, 895], [], [161], [], [], [], [], [], []] rfl (by decide +kernel) (by decide +kernel)
set_option maxRecDepth 100000 in
theorem okq_191 : mPq jtab (yX9_passHour, cX9_passHour, 4, (some .boolean), KX9_passHour) := mPq_of 880 [[], [114, 881, 882, 883], [], [], [], [], [167], [], [], [167], [], [], [], [], [], [121, 840, 486, 487], [], [], [114, 806, 807, 808], [], [], [121, 810, 811, 812], [], [114, 813, 814, 815], [], [], [], [], [], [], [], [], [], [], [], [], [], [114, 885, 886, 887], [], [], [170], [], [], [170], [], []] rfl (by decide +kernel) (by decide +kernel)
theorem okc_11 : ∀ q ∈ jtab_11, mPq jtab q := List.forall_mem_cons.mpr ⟨okq_176, List.forall_mem_cons.mpr ⟨okq_177, List.forall_mem_cons.mpr ⟨okq_178, List.forall_mem_cons.mpr ⟨okq_179, List.forall_mem_cons.mpr ⟨okq_180, List.forall_mem_cons.mpr ⟨okq_181, List.forall_mem_cons.mpr ⟨okq_182, List.forall_mem_cons.mpr ⟨okq_183, List.forall_mem_cons.mpr ⟨okq_184, List.forall_mem_cons.mpr ⟨okq_185, List.forall_mem_cons.mpr ⟨okq_186, List.forall_mem_cons.mpr ⟨okq_187, List.forall_mem_cons.mpr ⟨okq_188, List.forall_mem_cons.mpr ⟨okq_189, List.forall_mem_cons.mpr ⟨okq_190, List.forall_mem_cons.mpr ⟨okq_191, fun _ h => absurd h List.not_mem_nil⟩⟩⟩⟩⟩⟩⟩⟩⟩⟩⟩⟩⟩⟩⟩⟩
