/-! THE CODES ARE GOOD: part 9 (written by wip/gen/code12.py) -/
set_option maxRecDepth 100000 in
theorem okq_144 : mPq mtab (yX3_valueFor, cX3_valueFor, 8, (some .int), KX3_valueFor) := mPq_of 838 [[], [], [113, 839, 840, 841], [], [], [], [], [], [], [], [], [743], [], [], [], [], [743], [], [], [], [743], [], [], [], [], [], [], [743], [], [], [], [], [], [], [], [], [], [], [], [], [744], [], [], [], [], [], [], [], [], [], [], [], [], [], [], [], [744], [], [], [185], [], [], [], [], [], [], [], [], [], [], [], [], [], [], [], [], [], [], [], [], [], [], [], [744], [], [], [], [], [], [], [], [], [], [], [], [], [], [], [], [], [], [744], [], [], [], [], [], [744], [], [], [], [], [113, 843, 844, 845], [], [], [], [], [], [], [], [], [744], [], [], [], [], [], [744], [], [], [], [], [127, 847, 848], [], [], [], [], [], [], [], [], [], [], [744], [], [], [], [], [], [744], [], [], [], [], [], [744], [], [], [127, 850, 851], [], [], [], [], [], [], [744], [], [], [], [], [], [], []] rfl (by decide +kernel) (by decide +kernel)
set_option maxRecDepth 100000 in
theorem okq_145 : mPq mtab (yX9_tipsNow, cX9_tipsNow, 1, (some .int), KX9_tipsNow) := mPq_of 834 [[], [181], [], [], [181], [758], [], [], [], [], [181], [758], [], [], [127, 835, 836, 837], [], [121, 857, 594, 595], [], [121, 858, 504, 505], []] rfl (by decide +kernel) (by decide +kernel)
set_option maxRecDepth 100000 in
theorem okq_146 : mPq mtab (yX9_holdsStill, cX9_holdsStill, 1, (some .boolean), KX9_holdsStill) := mPq_of 823 [[], [113, 824, 825, 826], [121, 828, 829, 830], [], [113, 831, 832, 833], [], [], [], [], []] rfl (by decide +kernel) (by decide +kernel)
set_option maxRecDepth 100000 in
theorem okq_147 : mPq mtab (yX9_go, cX9_go, 4, (some .boolean), KX9_go) := mPq_of 815 [[], [], [113, 452, 453, 454], [], [], [], [], [160], [], [], [], [], [], [], [113, 816, 817, 818], [], [], [113, 820, 821, 822], [], [], [], [], [160], [], [], [], [], []] rfl (by decide +kernel) (by decide +kernel)
set_option maxRecDepth 100000 in
theorem okq_148 : mPq mtab (yX6_keptIf, cX6_keptIf, 2, (some .boolean), KX6_keptIf) := mPq_of 862 [[], [], [], [218], [], [], [], [], [218], [], [], [218], [], [], [], [], [], [217], [], [], [], [], [217], [], []] rfl (by decide +kernel) (by decide +kernel)
set_option maxRecDepth 100000 in
theorem okq_149 : mPq mtab (yX0_walks, cX0_walks, 3, (some .boolean), KX0_walks) := mPq_of 806 [[], [252], [], [250], [114, 807, 808, 809], [], [252], [], [250], [], [], [113, 812, 813, 814], [114, 859, 860, 861], []] rfl (by decide +kernel) (by decide +kernel)
set_option maxRecDepth 100000 in
theorem okq_150 : mPq mtab (yX10_walk, cX10_walk, 3, (some .boolean), KX10_walk) := mPq_of 802 [[], [411], [], [], [112, 803, 804, 805], []] rfl (by decide +kernel) (by decide +kernel)
set_option maxRecDepth 100000 in
theorem okq_151 : mPq mtab (yX11_step, cX11_step, 1, (some .int), KX11_step) := mPq_of 1564 [[], [], [], [], [], []] rfl (by decide +kernel) (by decide +kernel)
set_option maxRecDepth 100000 in
theorem okq_152 : mPq mtab (yX11_canStep, cX11_canStep, 3, (some .boolean), KX11_canStep) := mPq_of 1561 [[], [], [120, 1386, 1388, 35], [], [], [1272], [], [], [], [], [], [120, 1562, 1563], [], [120, 1379, 1380], [], [], [], [], []] rfl (by decide +kernel) (by decide +kernel)
set_option maxRecDepth 100000 in
theorem okq_153 : mPq mtab (yX11_move, cX11_move, 3, none, KX11_move) := mPq_of 1568 [[], [1272], [], [], [], [], [], [], [120, 1562, 1563], [], [], []] rfl (by decide +kernel) (by decide +kernel)
set_option maxRecDepth 100000 in
theorem okq_154 : mPq mtab (yX11_everyone, cX11_everyone, 1, (some .int), KX11_everyone) := mPq_of 1580 [[], [], [1272], [], [], [], [], [], []] rfl (by decide +kernel) (by decide +kernel)
set_option maxRecDepth 100000 in
theorem okq_155 : mPq mtab (yX11_tipOf, cX11_tipOf, 4, (some .int), KX11_tipOf) := mPq_of 1584 [[], [], [], [], [], [], [], [], [], [1272], [], [], [], [], [], [], [], [], [], [], [], [], [], [], [], [], [1272], [], [], [], [], [], [], [120, 1460, 1461], [], [], [1272], [], [], [], [], [], [1272], [], [], [], [], [], [], [], [], [], [], [], [], [], [], []] rfl (by decide +kernel) (by decide +kernel)
set_option maxRecDepth 100000 in
theorem okq_156 : mPq mtab (yX11_tipNow, cX11_tipNow, 1, (some .int), KX11_tipNow) := mPq_of 1576 [[], [], [120, 1577, 1579, 66], [120, 1581, 1583, 67], []] rfl (by decide +kernel) (by decide +kernel)
set_option maxRecDepth 100000 in
theorem okq_157 : mPq mtab (yX11_size, cX11_size, 1, (some .int), KX11_size) := mPq_of 1587 [[], [], [], [], [], [], []] rfl (by decide +kernel) (by decide +kernel)
set_option maxRecDepth 100000 in
theorem okq_158 : mPq mtab (yX11_weightOf, cX11_weightOf, 4, (some .int), KX11_weightOf) := mPq_of 1599 [[], [], [], [], [], [], [1272], [], [], [], [], [], [], [120, 1460, 1461], [], [], [1272], [], [], [], [], [], [], [], [], [], [], [], []] rfl (by decide +kernel) (by decide +kernel)
set_option maxRecDepth 100000 in
theorem okq_159 : mPq mtab (yX11_allSnow, cX11_allSnow, 3, (some .int), KX11_allSnow) := mPq_of 1603 [[], [], [], [], [], [], [], [], [], [1272], [], [], [], [], [], [], [], [], [], []] rfl (by decide +kernel) (by decide +kernel)
theorem okc_9 : ∀ q ∈ mtab_9, mPq mtab q := List.forall_mem_cons.mpr ⟨okq_144, List.forall_mem_cons.mpr ⟨okq_145, List.forall_mem_cons.mpr ⟨okq_146, List.forall_mem_cons.mpr ⟨okq_147, List.forall_mem_cons.mpr ⟨okq_148, List.forall_mem_cons.mpr ⟨okq_149, List.forall_mem_cons.mpr ⟨okq_150, List.forall_mem_cons.mpr ⟨okq_151, List.forall_mem_cons.mpr ⟨okq_152, List.forall_mem_cons.mpr ⟨okq_153, List.forall_mem_cons.mpr ⟨okq_154, List.forall_mem_cons.mpr ⟨okq_155, List.forall_mem_cons.mpr ⟨okq_156, List.forall_mem_cons.mpr ⟨okq_157, List.forall_mem_cons.mpr ⟨okq_158, List.forall_mem_cons.mpr ⟨okq_159, fun _ h => absurd h List.not_mem_nil⟩⟩⟩⟩⟩⟩⟩⟩⟩⟩⟩⟩⟩⟩⟩⟩
