/-! THE CODES ARE GOOD: part 0 (written by wip/gen/code12.py) -/
set_option maxRecDepth 100000 in
theorem okq_0 : mPq mtab (yX9_init, cX9_init, 1, none, KX9_init) := mPq_of 150 [[], [151, 138, 139], [], [], [152], [], [], [209], [157], [], [], [209], [160], [], [], [209], [164], [], [], [209], [166], [], [], [169], [], [], [173], [], [], [209], [176], [], [], [178], [], [], [181], [], [], [209], [184], []] rfl (by decide +kernel) (by decide +kernel)
set_option maxRecDepth 100000 in
theorem okq_1 : mPq mtab (yX6_init, cX6_init, 1, none, KX6_init) := mPq_of 214 [[], [215, 138, 139], [], [], [209], [216], [], [], [217], [], [], [218], []] rfl (by decide +kernel) (by decide +kernel)
set_option maxRecDepth 100000 in
theorem okq_2 : mPq mtab (yX2_init, cX2_init, 1, none, KX2_init) := mPq_of 231 [[], [232, 138, 139], [], [], [209], [233], [], [], [209], [234], [], [], [209], [235], [], [], [237], []] rfl (by decide +kernel) (by decide +kernel)
set_option maxRecDepth 100000 in
theorem okq_3 : mPq mtab (yX0_init, cX0_init, 1, none, KX0_init) := mPq_of 144 [[], [145, 138, 139], [], [146, 147, 113], [], [113, 148, 149], [250], [], [210, 211, 114], [], [114, 212, 213], [252], [], [227, 228, 115], [], [115, 229, 230], [254], [], [], [248], [256], [], [], [258], [], [], [260], [], [], [209], [262], [], [], [209], [263], [], [], [264], []] rfl (by decide +kernel) (by decide +kernel)
set_option maxRecDepth 100000 in
theorem okq_4 : mPq mtab (yX7_init, cX7_init, 1, none, KX7_init) := mPq_of 291 [[], [292, 138, 139], [], [], [209], [293], [], [], [294], [], [], [209], [296], [], [], [209], [298], [], [], [209], [300], [], [], [302], []] rfl (by decide +kernel) (by decide +kernel)
set_option maxRecDepth 100000 in
theorem okq_5 : mPq mtab (yX4_init, cX4_init, 2, none, KX4_init) := mPq_of 321 [[], [322, 138, 139], [], [], [209], [324], [], [], [209], [325], [], [], [209], [326], [], [], [209], [327], [], [], [328], [], [], [329], [], [], [330], [], [], [331], [], [], [332], [], [], [333], [], [], [334], [], [], [336], [], [], [323], []] rfl (by decide +kernel) (by decide +kernel)
set_option maxRecDepth 100000 in
theorem okq_6 : mPq mtab (yX5_init, cX5_init, 1, none, KX5_init) := mPq_of 369 [[], [370, 138, 139], [], [], [209], [371], [], [], [209], [372], [], [], [373], [], [], [375], []] rfl (by decide +kernel) (by decide +kernel)
set_option maxRecDepth 100000 in
theorem okq_7 : mPq mtab (yX1_init, cX1_init, 1, none, KX1_init) := mPq_of 389 [[], [390, 138, 139], [], [], [209], [391], [], [], [409], [392], [], [], [410], [394], [], [], [395], [], [], [396], []] rfl (by decide +kernel) (by decide +kernel)
set_option maxRecDepth 100000 in
theorem okq_8 : mPq mtab (yX10_init, cX10_init, 1, none, KX10_init) := mPq_of 136 [[], [137, 138, 139], [], [140, 141, 112], [], [112, 142, 143], [411], [], [140, 141, 112], [], [112, 142, 143], [412], [], [285, 147, 113], [], [113, 286, 149], [413], [], [287, 288, 116], [], [116, 289, 290], [414], [], [317, 318, 117], [], [], [414], [117, 319, 320], [415], [], [365, 366, 118], [], [118, 367, 368], [416], [], [385, 386, 119], [], [119, 387, 388], [417], []] rfl (by decide +kernel) (by decide +kernel)
set_option maxRecDepth 100000 in
theorem okq_9 : mPq mtab (yX11_copy, cX11_copy, 3, none, KX11_copy) := mPq_of 1271 [[], [], [], [], [], [], [], [], [], [], [], [], [], []] rfl (by decide +kernel) (by decide +kernel)
set_option maxRecDepth 100000 in
theorem okq_10 : mPq mtab (yX11_init, cX11_init, 2, none, KX11_init) := mPq_of 1267 [[], [1268, 138, 139], [], [], [209], [1272], [], [], [209], [1273], [], [], [209], [1274], [], [], [209], [1275], [], [], [1277], [], [], [1278], [], [], [209], [1287], [], [], [209], [1292], [], [], [409], [1293], [], [], [410], [1294], [], [], [1295], [], [], [209], [1297], [], [], [209], [1298], [], [], [209], [1299], [], [], [410], [1300], [], [], [209], [1301], [], [], [209], [1302], [], [], [410], [1303], [], [], [409], [1304], [], [1272], [], [], [], [], [1272], [], [], [], [], [], [], [], [], [], [1272], [], [], [], [], [], [], [], [], [1272], [], [1273], [120, 1269, 1270], []] rfl (by decide +kernel) (by decide +kernel)
set_option maxRecDepth 100000 in
theorem okq_11 : mPq mtab (yX10_within, cX10_within, 3, (some .boolean), KX10_within) := mPq_of 439 [[], [], [], [], [], [], [], [], [], []] rfl (by decide +kernel) (by decide +kernel)
set_option maxRecDepth 100000 in
theorem okq_12 : mPq mtab (yX9_settle, cX9_settle, 3, (some .int), KX9_settle) := mPq_of 443 [[], [152], [], [], [], [], [], [157], [], [152], [], [], [], [160], [], [152], [], [], [], [164], [], [152], [], [], [], [], [152], [], [], [152], [], [152], [], [], []] rfl (by decide +kernel) (by decide +kernel)
set_option maxRecDepth 100000 in
theorem okq_13 : mPq mtab (yX10_person, cX10_person, 3, (some .int), KX10_person) := mPq_of 436 [[], [], [], [111, 437, 438], [], [], [], [], [111, 437, 438], [], [], [], [], [411], [251], [], [], [113, 440, 441, 442], []] rfl (by decide +kernel) (by decide +kernel)
set_option maxRecDepth 100000 in
theorem okq_14 : mPq mtab (yX11_isIn, cX11_isIn, 3, (some .boolean), KX11_isIn) := mPq_of 1378 [[], [], [], [], [], [], [], [], [], []] rfl (by decide +kernel) (by decide +kernel)
set_option maxRecDepth 100000 in
theorem okq_15 : mPq mtab (yX11_isPlace, cX11_isPlace, 1, (some .boolean), KX11_isPlace) := mPq_of 1381 [[], [], [], [120, 1376, 1377], []] rfl (by decide +kernel) (by decide +kernel)
theorem okc_0 : ∀ q ∈ mtab_0, mPq mtab q := List.forall_mem_cons.mpr ⟨okq_0, List.forall_mem_cons.mpr ⟨okq_1, List.forall_mem_cons.mpr ⟨okq_2, List.forall_mem_cons.mpr ⟨okq_3, List.forall_mem_cons.mpr ⟨okq_4, List.forall_mem_cons.mpr ⟨okq_5, List.forall_mem_cons.mpr ⟨okq_6, List.forall_mem_cons.mpr ⟨okq_7, List.forall_mem_cons.mpr ⟨okq_8, List.forall_mem_cons.mpr ⟨okq_9, List.forall_mem_cons.mpr ⟨okq_10, List.forall_mem_cons.mpr ⟨okq_11, List.forall_mem_cons.mpr ⟨okq_12, List.forall_mem_cons.mpr ⟨okq_13, List.forall_mem_cons.mpr ⟨okq_14, List.forall_mem_cons.mpr ⟨okq_15, fun _ h => absurd h List.not_mem_nil⟩⟩⟩⟩⟩⟩⟩⟩⟩⟩⟩⟩⟩⟩⟩⟩
