/-! THE CODES ARE GOOD: part 1 (written by wip/gen/code12.py) -/
set_option maxRecDepth 100000 in
theorem okq_16 : mPq mtab (yX11_person, cX11_person, 4, (some .int), KX11_person) := mPq_of 1375 [[], [], [], [120, 1376, 1377], [], [], [120, 1379, 1380], [], [], [1272], [], [], [], [], [], [], [], [1272], [], [], [], [], [1272], [], [], [], [], [], [], [1272], [], [], [], [], [], [], [1272], [], [], [], [], [], [], [1272], [], [], [], [], [], [], [], []] rfl (by decide +kernel) (by decide +kernel)
set_option maxRecDepth 100000 in
theorem okq_17 : mPq mtab (yX9_has, cX9_has, 2, (some .boolean), KX9_has) := mPq_of 455 [[], [], [], [152], [], [], [111, 456, 438], []] rfl (by decide +kernel) (by decide +kernel)
set_option maxRecDepth 100000 in
theorem okq_18 : mPq mtab (yX9_aims, cX9_aims, 3, (some .boolean), KX9_aims) := mPq_of 451 [[], [], [113, 452, 453, 454], [], [], [], [], [164], [], [], [], [], []] rfl (by decide +kernel) (by decide +kernel)
set_option maxRecDepth 100000 in
theorem okq_19 : mPq mtab (yX10_goal, cX10_goal, 3, (some .boolean), KX10_goal) := mPq_of 447 [[], [], [], [111, 437, 438], [], [], [], [], [411], [251], [], [], [113, 448, 449, 450], []] rfl (by decide +kernel) (by decide +kernel)
set_option maxRecDepth 100000 in
theorem okq_20 : mPq mtab (yX11_isPerson, cX11_isPerson, 2, (some .boolean), KX11_isPerson) := mPq_of 1389 [[], [], [], [1272], [], [], [], [], [120, 1376, 1377], []] rfl (by decide +kernel) (by decide +kernel)
set_option maxRecDepth 100000 in
theorem okq_21 : mPq mtab (yX11_goal, cX11_goal, 3, (some .boolean), KX11_goal) := mPq_of 1385 [[], [], [120, 1386, 1388, 35], [], [], [], [], [], [120, 1379, 1380], [], [], [], [], [1272], [], [], [], [], [], [], []] rfl (by decide +kernel) (by decide +kernel)
set_option maxRecDepth 100000 in
theorem okq_22 : mPq mtab (yX2_hire, cX2_hire, 3, (some .int), KX2_hire) := mPq_of 464 [[], [237], [], [], [], [], [], [233], [], [237], [], [], [], [234], [], [237], [], [], [], [], [237], [], [], [237], [], [237], [], [], []] rfl (by decide +kernel) (by decide +kernel)
set_option maxRecDepth 100000 in
theorem okq_23 : mPq mtab (yX10_hand, cX10_hand, 3, (some .int), KX10_hand) := mPq_of 460 [[], [], [], [111, 437, 438], [], [], [], [], [111, 437, 438], [], [], [], [], [411], [255], [], [], [115, 461, 462, 463], []] rfl (by decide +kernel) (by decide +kernel)
set_option maxRecDepth 100000 in
theorem okq_24 : mPq mtab (yX11_hand, cX11_hand, 3, (some .int), KX11_hand) := mPq_of 1393 [[], [], [], [120, 1376, 1377], [], [], [], [], [120, 1376, 1377], [], [], [1272], [], [], [], [], [], [], [], [1272], [], [], [], [1272], [], [], [], [], [], [], [], [1272], [], [], [], [1272], [], [], [], [], [], [], [], [], [], [1272], [], [], [], [], [], [], [], [1272], [], [], [], [], []] rfl (by decide +kernel) (by decide +kernel)
set_option maxRecDepth 100000 in
theorem okq_25 : mPq mtab (yX7_append, cX7_append, 3, none, KX7_append) := mPq_of 472 [[], [], [], [], [], [294], [], [], [], [293], [], [294], [], [], [], [], [], [], [], [], [294], [], [], [294], [], [], []] rfl (by decide +kernel) (by decide +kernel)
set_option maxRecDepth 100000 in
theorem okq_26 : mPq mtab (yX10_feed, cX10_feed, 6, (some .int), KX10_feed) := mPq_of 468 [[], [414], [295], [], [], [], [], [], [], [], [414], [], [116, 469, 470, 471], [], [414], [], [116, 469, 470, 471], [], [414], [], [116, 469, 470, 471], [], [414], [], [116, 469, 470, 471], [], [414], [], [116, 469, 470, 471], [], [414], [295], []] rfl (by decide +kernel) (by decide +kernel)
set_option maxRecDepth 100000 in
theorem okq_27 : mPq mtab (yX11_four, cX11_four, 3, none, KX11_four) := mPq_of 1401 [[], [], [], [], [], [1275], [], [1276], [], [], [], [], [], [], [], [], [1276], [], [], [1276], [], [], []] rfl (by decide +kernel) (by decide +kernel)
set_option maxRecDepth 100000 in
theorem okq_28 : mPq mtab (yX11_feed, cX11_feed, 6, (some .int), KX11_feed) := mPq_of 1397 [[], [1276], [], [], [], [], [], [], [], [], [120, 1398, 1400, 36], [], [], [120, 1398, 1400, 36], [], [], [120, 1398, 1400, 36], [], [], [120, 1398, 1400, 36], [], [], [120, 1398, 1400, 36], [], [1276], []] rfl (by decide +kernel) (by decide +kernel)
set_option maxRecDepth 100000 in
theorem okq_29 : mPq mtab (yX10_end, cX10_end, 2, (some .int), KX10_end) := mPq_of 476 [[], [], [], [414], [295], [111, 437, 438], [], [], [], [], [414], [], [295], [], []] rfl (by decide +kernel) (by decide +kernel)
set_option maxRecDepth 100000 in
theorem okq_30 : mPq mtab (yX11_end, cX11_end, 2, (some .int), KX11_end) := mPq_of 1405 [[], [], [], [1276], [120, 1376, 1377], [], [], [], [], [], [1276], [], []] rfl (by decide +kernel) (by decide +kernel)
set_option maxRecDepth 100000 in
theorem okq_31 : mPq mtab (yX7_isBlank, cX7_isBlank, 1, (some .boolean), KX7_isBlank) := mPq_of 491 [[], [], [], [], [], [], [], [], [], []] rfl (by decide +kernel) (by decide +kernel)
theorem okc_1 : ∀ q ∈ mtab_1, mPq mtab q := List.forall_mem_cons.mpr ⟨okq_16, List.forall_mem_cons.mpr ⟨okq_17, List.forall_mem_cons.mpr ⟨okq_18, List.forall_mem_cons.mpr ⟨okq_19, List.forall_mem_cons.mpr ⟨okq_20, List.forall_mem_cons.mpr ⟨okq_21, List.forall_mem_cons.mpr ⟨okq_22, List.forall_mem_cons.mpr ⟨okq_23, List.forall_mem_cons.mpr ⟨okq_24, List.forall_mem_cons.mpr ⟨okq_25, List.forall_mem_cons.mpr ⟨okq_26, List.forall_mem_cons.mpr ⟨okq_27, List.forall_mem_cons.mpr ⟨okq_28, List.forall_mem_cons.mpr ⟨okq_29, List.forall_mem_cons.mpr ⟨okq_30, List.forall_mem_cons.mpr ⟨okq_31, fun _ h => absurd h List.not_mem_nil⟩⟩⟩⟩⟩⟩⟩⟩⟩⟩⟩⟩⟩⟩⟩⟩
