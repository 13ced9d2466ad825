/-! THE CODES ARE GOOD: part 1 (written by wip/gen/code12.py) -/
set_option maxRecDepth 100000 in
theorem okq_16 : mPq jtab (yX11_person, cX11_person, 4, (some .int), KX11_person) := mPq_of 1381 [[], [], [], [120, 1382, 1383], [], [], [120, 1385, 1386], [], [], [1278], [], [], [], [], [], [], [], [1278], [], [], [], [], [1278], [], [], [], [], [], [], [1278], [], [], [], [], [], [], [1278], [], [], [], [], [], [], [1278], [], [], [], [], [], [], [], []] rfl (by decide +kernel) (by decide +kernel)
set_option maxRecDepth 100000 in
theorem okq_17 : mPq jtab (yX9_has, cX9_has, 2, (some .boolean), KX9_has) := mPq_of 437 [[], [], [], [153], [], [], [112, 438, 420], []] rfl (by decide +kernel) (by decide +kernel)
set_option maxRecDepth 100000 in
theorem okq_18 : mPq jtab (yX9_aims, cX9_aims, 3, (some .boolean), KX9_aims) := mPq_of 433 [[], [], [114, 434, 435, 436], [], [], [], [], [165], [], [], [], [], []] rfl (by decide +kernel) (by decide +kernel)
set_option maxRecDepth 100000 in
theorem okq_19 : mPq jtab (yX10_goal, cX10_goal, 3, (some .boolean), KX10_goal) := mPq_of 429 [[], [], [], [112, 419, 420], [], [], [], [], [393], [252], [], [], [114, 430, 431, 432], []] rfl (by decide +kernel) (by decide +kernel)
set_option maxRecDepth 100000 in
theorem okq_20 : mPq jtab (yX11_isPerson, cX11_isPerson, 2, (some .boolean), KX11_isPerson) := mPq_of 1395 [[], [], [], [1278], [], [], [], [], [120, 1382, 1383], []] rfl (by decide +kernel) (by decide +kernel)
set_option maxRecDepth 100000 in
theorem okq_21 : mPq jtab (yX11_goal, cX11_goal, 3, (some .boolean), KX11_goal) := mPq_of 1391 [[], [], [120, 1392, 1394, 36], [], [], [], [], [], [120, 1385, 1386], [], [], [], [], [1278], [], [], [], [], [], [], []] rfl (by decide +kernel) (by decide +kernel)
set_option maxRecDepth 100000 in
theorem okq_22 : mPq jtab (yX2_hire, cX2_hire, 3, (some .int), KX2_hire) := mPq_of 446 [[], [238], [], [], [], [], [], [234], [], [238], [], [], [], [235], [], [238], [], [], [], [], [238], [], [], [238], [], [238], [], [], []] rfl (by decide +kernel) (by decide +kernel)
set_option maxRecDepth 100000 in
theorem okq_23 : mPq jtab (yX10_hand, cX10_hand, 3, (some .int), KX10_hand) := mPq_of 442 [[], [], [], [112, 419, 420], [], [], [], [], [112, 419, 420], [], [], [], [], [393], [256], [], [], [116, 443, 444, 445], []] rfl (by decide +kernel) (by decide +kernel)
set_option maxRecDepth 100000 in
theorem okq_24 : mPq jtab (yX11_hand, cX11_hand, 3, (some .int), KX11_hand) := mPq_of 1399 [[], [], [], [120, 1382, 1383], [], [], [], [], [120, 1382, 1383], [], [], [1278], [], [], [], [], [], [], [], [1278], [], [], [], [1278], [], [], [], [], [], [], [], [1278], [], [], [], [1278], [], [], [], [], [], [], [], [], [], [1278], [], [], [], [], [], [], [], [1278], [], [], [], [], []] rfl (by decide +kernel) (by decide +kernel)
set_option maxRecDepth 100000 in
theorem okq_25 : mPq jtab (yX7_append, cX7_append, 3, none, KX7_append) := mPq_of 454 [[], [], [], [], [], [301], [], [], [], [300], [], [301], [], [], [], [], [], [], [], [], [301], [], [], [301], [], [], []] rfl (by decide +kernel) (by decide +kernel)
set_option maxRecDepth 100000 in
theorem okq_26 : mPq jtab (yX10_feed, cX10_feed, 6, (some .int), JX10_feed) := mPq_of 450 [[], [397], [302], [], [], [], [], [], [], [], [397], [], [118, 451, 452, 453], [], [397], [], [118, 451, 452, 453], [], [397], [], [118, 451, 452, 453], [], [397], [], [118, 451, 452, 453], [], [397], [], [118, 451, 452, 453], [], [397], [302], []] rfl (by decide +kernel) (by decide +kernel)
set_option maxRecDepth 100000 in
theorem okq_27 : mPq jtab (yX11_four, cX11_four, 3, none, KX11_four) := mPq_of 1407 [[], [], [], [], [], [1281], [], [1282], [], [], [], [], [], [], [], [], [1282], [], [], [1282], [], [], []] rfl (by decide +kernel) (by decide +kernel)
set_option maxRecDepth 100000 in
theorem okq_28 : mPq jtab (yX11_feed, cX11_feed, 6, (some .int), KX11_feed) := mPq_of 1403 [[], [1282], [], [], [], [], [], [], [], [], [120, 1404, 1406, 37], [], [], [120, 1404, 1406, 37], [], [], [120, 1404, 1406, 37], [], [], [120, 1404, 1406, 37], [], [], [120, 1404, 1406, 37], [], [1282], []] rfl (by decide +kernel) (by decide +kernel)
set_option maxRecDepth 100000 in
theorem okq_29 : mPq jtab (yX10_end, cX10_end, 2, (some .int), JX10_end) := mPq_of 458 [[], [], [], [397], [302], [112, 419, 420], [], [], [], [], [397], [], [302], [], []] rfl (by decide +kernel) (by decide +kernel)
set_option maxRecDepth 100000 in
theorem okq_30 : mPq jtab (yX11_end, cX11_end, 2, (some .int), KX11_end) := mPq_of 1411 [[], [], [], [1282], [120, 1382, 1383], [], [], [], [], [], [1282], [], []] rfl (by decide +kernel) (by decide +kernel)
set_option maxRecDepth 100000 in
theorem okq_31 : mPq jtab (yX7_isBlank, cX7_isBlank, 1, (some .boolean), KX7_isBlank) := mPq_of 473 [[], [], [], [], [], [], [], [], [], []] rfl (by decide +kernel) (by decide +kernel)
theorem okc_1 : ∀ q ∈ jtab_1, mPq jtab q := List.forall_mem_cons.mpr ⟨okq_16, List.forall_mem_cons.mpr ⟨okq_17, List.forall_mem_cons.mpr ⟨okq_18, List.forall_mem_cons.mpr ⟨okq_19, List.forall_mem_cons.mpr ⟨okq_20, List.forall_mem_cons.mpr ⟨okq_21, List.forall_mem_cons.mpr ⟨okq_22, List.forall_mem_cons.mpr ⟨okq_23, List.forall_mem_cons.mpr ⟨okq_24, List.forall_mem_cons.mpr ⟨okq_25, List.forall_mem_cons.mpr ⟨okq_26, List.forall_mem_cons.mpr ⟨okq_27, List.forall_mem_cons.mpr ⟨okq_28, List.forall_mem_cons.mpr ⟨okq_29, List.forall_mem_cons.mpr ⟨okq_30, List.forall_mem_cons.mpr ⟨okq_31, fun _ h => absurd h List.not_mem_nil⟩⟩⟩⟩⟩⟩⟩⟩⟩⟩⟩⟩⟩⟩⟩⟩
