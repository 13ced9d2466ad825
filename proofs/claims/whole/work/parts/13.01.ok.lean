/-! THE CODES ARE GOOD: part 0 (written by wip/gen/code12.py) -/
set_option maxRecDepth 100000 in
theorem okq_0 : mPq jtab (yX9_init, cX9_init, 1, none, KX9_init) := mPq_of 151 [[], [152, 139, 140], [], [], [153], [], [], [210], [158], [], [], [210], [161], [], [], [210], [165], [], [], [210], [167], [], [], [170], [], [], [174], [], [], [210], [177], [], [], [179], [], [], [182], [], [], [210], [185], []] rfl (by decide +kernel) (by decide +kernel)
set_option maxRecDepth 100000 in
theorem okq_1 : mPq jtab (yX6_init, cX6_init, 1, none, KX6_init) := mPq_of 215 [[], [216, 139, 140], [], [], [210], [217], [], [], [218], [], [], [219], []] rfl (by decide +kernel) (by decide +kernel)
set_option maxRecDepth 100000 in
theorem okq_2 : mPq jtab (yX2_init, cX2_init, 1, none, KX2_init) := mPq_of 232 [[], [233, 139, 140], [], [], [210], [234], [], [], [210], [235], [], [], [210], [236], [], [], [238], []] rfl (by decide +kernel) (by decide +kernel)
set_option maxRecDepth 100000 in
theorem okq_3 : mPq jtab (yX0_init, cX0_init, 1, none, KX0_init) := mPq_of 145 [[], [146, 139, 140], [], [147, 148, 114], [], [114, 149, 150], [251], [], [211, 212, 115], [], [115, 213, 214], [253], [], [228, 229, 116], [], [116, 230, 231], [255], [], [], [249], [257], [], [], [259], [], [], [261], [], [], [210], [263], [], [], [210], [264], [], [], [265], []] rfl (by decide +kernel) (by decide +kernel)
set_option maxRecDepth 100000 in
theorem okq_4 : mPq jtab (yX7_init, cX7_init, 1, none, KX7_init) := mPq_of 298 [[], [299, 139, 140], [], [], [210], [300], [], [], [301], [], [], [210], [303], [], [], [210], [305], [], [], [210], [307], [], [], [309], []] rfl (by decide +kernel) (by decide +kernel)
set_option maxRecDepth 100000 in
theorem okq_5 : mPq jtab (yX4_init, cX4_init, 1, none, JX4_init) := mPq_of 292 [[], [293, 139, 140], [], [294, 295, 118], [], [118, 296, 297], [324], [], [], [210], [326], [], [], [210], [327], [], [], [210], [328], [], [], [210], [329], [], [], [330], [], [], [331], [], [], [332], [], [], [333], [], [], [334], [], [], [335], [], [], [336], [], [], [338], []] rfl (by decide +kernel) (by decide +kernel)
set_option maxRecDepth 100000 in
theorem okq_6 : mPq jtab (yX5_init, cX5_init, 1, none, KX5_init) := mPq_of 993 [[], [994, 139, 140], [], [], [210], [995], [], [], [210], [996], [], [], [997], [], [], [999], []] rfl (by decide +kernel) (by decide +kernel)
set_option maxRecDepth 100000 in
theorem okq_7 : mPq jtab (yX1_init, cX1_init, 1, none, KX1_init) := mPq_of 371 [[], [372, 139, 140], [], [], [210], [373], [], [], [391], [374], [], [], [392], [376], [], [], [377], [], [], [378], []] rfl (by decide +kernel) (by decide +kernel)
set_option maxRecDepth 100000 in
theorem okq_8 : mPq jtab (yX10_init, cX10_init, 1, none, JX10_init) := mPq_of 137 [[], [138, 139, 140], [], [141, 142, 113], [], [113, 143, 144], [393], [], [141, 142, 113], [], [113, 143, 144], [394], [], [286, 148, 114], [], [114, 287, 150], [395], [], [288, 289, 117], [], [117, 290, 291], [396], [], [], [396], [325], [397], [], [367, 368, 119], [], [119, 369, 370], [398], [], [], [399], []] rfl (by decide +kernel) (by decide +kernel)
set_option maxRecDepth 100000 in
theorem okq_9 : mPq jtab (yX11_copy, cX11_copy, 3, none, KX11_copy) := mPq_of 1277 [[], [], [], [], [], [], [], [], [], [], [], [], [], []] rfl (by decide +kernel) (by decide +kernel)
set_option maxRecDepth 100000 in
theorem okq_10 : mPq jtab (yX11_init, cX11_init, 2, none, KX11_init) := mPq_of 1273 [[], [1274, 139, 140], [], [], [210], [1278], [], [], [210], [1279], [], [], [210], [1280], [], [], [210], [1281], [], [], [1283], [], [], [1284], [], [], [210], [1293], [], [], [210], [1298], [], [], [391], [1299], [], [], [392], [1300], [], [], [1301], [], [], [210], [1303], [], [], [210], [1304], [], [], [210], [1305], [], [], [392], [1306], [], [], [210], [1307], [], [], [210], [1308], [], [], [392], [1309], [], [], [391], [1310], [], [1278], [], [], [], [], [1278], [], [], [], [], [], [], [], [], [], [1278], [], [], [], [], [], [], [], [], [1278], [], [1279], [120, 1275, 1276], []] rfl (by decide +kernel) (by decide +kernel)
set_option maxRecDepth 100000 in
theorem okq_11 : mPq jtab (yX10_within, cX10_within, 3, (some .boolean), KX10_within) := mPq_of 421 [[], [], [], [], [], [], [], [], [], []] rfl (by decide +kernel) (by decide +kernel)
set_option maxRecDepth 100000 in
theorem okq_12 : mPq jtab (yX9_settle, cX9_settle, 3, (some .int), KX9_settle) := mPq_of 425 [[], [153], [], [], [], [], [], [158], [], [153], [], [], [], [161], [], [153], [], [], [], [165], [], [153], [], [], [], [], [153], [], [], [153], [], [153], [], [], []] rfl (by decide +kernel) (by decide +kernel)
set_option maxRecDepth 100000 in
theorem okq_13 : mPq jtab (yX10_person, cX10_person, 3, (some .int), KX10_person) := mPq_of 418 [[], [], [], [112, 419, 420], [], [], [], [], [112, 419, 420], [], [], [], [], [393], [252], [], [], [114, 422, 423, 424], []] rfl (by decide +kernel) (by decide +kernel)
set_option maxRecDepth 100000 in
theorem okq_14 : mPq jtab (yX11_isIn, cX11_isIn, 3, (some .boolean), KX11_isIn) := mPq_of 1384 [[], [], [], [], [], [], [], [], [], []] rfl (by decide +kernel) (by decide +kernel)
set_option maxRecDepth 100000 in
theorem okq_15 : mPq jtab (yX11_isPlace, cX11_isPlace, 1, (some .boolean), KX11_isPlace) := mPq_of 1387 [[], [], [], [120, 1382, 1383], []] rfl (by decide +kernel) (by decide +kernel)
theorem okc_0 : ∀ q ∈ jtab_0, mPq jtab q := List.forall_mem_cons.mpr ⟨okq_0, List.forall_mem_cons.mpr ⟨okq_1, List.forall_mem_cons.mpr ⟨okq_2, List.forall_mem_cons.mpr ⟨okq_3, List.forall_mem_cons.mpr ⟨okq_4, List.forall_mem_cons.mpr ⟨okq_5, List.forall_mem_cons.mpr ⟨okq_6, List.forall_mem_cons.mpr ⟨okq_7, List.forall_mem_cons.mpr ⟨okq_8, List.forall_mem_cons.mpr ⟨okq_9, List.forall_mem_cons.mpr ⟨okq_10, List.forall_mem_cons.mpr ⟨okq_11, List.forall_mem_cons.mpr ⟨okq_12, List.forall_mem_cons.mpr ⟨okq_13, List.forall_mem_cons.mpr ⟨okq_14, List.forall_mem_cons.mpr ⟨okq_15, fun _ h => absurd h List.not_mem_nil⟩⟩⟩⟩⟩⟩⟩⟩⟩⟩⟩⟩⟩⟩⟩⟩
