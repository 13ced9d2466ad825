/-! THE CODES ARE GOOD: part 9 (written by wip/gen/code12.py) -/
set_option maxRecDepth 100000 in
theorem okq_144 : mPq jtab (yX3_valueFor, cX3_valueFor, 8, (some .int), KX3_valueFor) := mPq_of 820 [[], [], [114, 821, 822, 823], [], [], [], [], [], [], [], [], [725], [], [], [], [], [725], [], [], [], [725], [], [], [], [], [], [], [725], [], [], [], [], [], [], [], [], [], [], [], [], [726], [], [], [], [], [], [], [], [], [], [], [], [], [], [], [], [726], [], [], [186], [], [], [], [], [], [], [], [], [], [], [], [], [], [], [], [], [], [], [], [], [], [], [], [726], [], [], [], [], [], [], [], [], [], [], [], [], [], [], [], [], [], [726], [], [], [], [], [], [726], [], [], [], [], [114, 825, 826, 827], [], [], [], [], [], [], [], [], [726], [], [], [], [], [], [726], [], [], [], [], [127, 829, 830], [], [], [], [], [], [], [], [], [], [], [726], [], [], [], [], [], [726], [], [], [], [], [], [726], [], [], [127, 832, 833], [], [], [], [], [], [], [726], [], [], [], [], [], [], []] rfl (by decide +kernel) (by decide +kernel)
set_option maxRecDepth 100000 in
theorem okq_145 : mPq jtab (yX9_tipsNow, cX9_tipsNow, 1, (some .int), KX9_tipsNow) := mPq_of 816 [[], [182], [], [], [182], [740], [], [], [], [], [182], [740], [], [], [127, 817, 818, 819], [], [121, 839, 576, 577], [], [121, 840, 486, 487], []] rfl (by decide +kernel) (by decide +kernel)
set_option maxRecDepth 100000 in
theorem okq_146 : mPq jtab (yX9_holdsStill, cX9_holdsStill, 1, (some .boolean), KX9_holdsStill) := mPq_of 805 [[], [114, 806, 807, 808], [121, 810, 811, 812], [], [114, 813, 814, 815], [], [], [], [], []] rfl (by decide +kernel) (by decide +kernel)
set_option maxRecDepth 100000 in
theorem okq_147 : mPq jtab (yX9_go, cX9_go, 4, (some .boolean), KX9_go) := mPq_of 797 [[], [], [114, 434, 435, 436], [], [], [], [], [161], [], [], [], [], [], [], [114, 798, 799, 800], [], [], [114, 802, 803, 804], [], [], [], [], [161], [], [], [], [], []] rfl (by decide +kernel) (by decide +kernel)
set_option maxRecDepth 100000 in
theorem okq_148 : mPq jtab (yX6_keptIf, cX6_keptIf, 2, (some .boolean), KX6_keptIf) := mPq_of 844 [[], [], [], [219], [], [], [], [], [219], [], [], [219], [], [], [], [], [], [218], [], [], [], [], [218], [], []] rfl (by decide +kernel) (by decide +kernel)
set_option maxRecDepth 100000 in
theorem okq_149 : mPq jtab (yX0_walks, cX0_walks, 3, (some .boolean), KX0_walks) := mPq_of 788 [[], [253], [], [251], [115, 789, 790, 791], [], [253], [], [251], [], [], [114, 794, 795, 796], [115, 841, 842, 843], []] rfl (by decide +kernel) (by decide +kernel)
set_option maxRecDepth 100000 in
theorem okq_150 : mPq jtab (yX10_walk, cX10_walk, 3, (some .boolean), KX10_walk) := mPq_of 784 [[], [393], [], [], [113, 785, 786, 787], []] rfl (by decide +kernel) (by decide +kernel)
set_option maxRecDepth 100000 in
theorem okq_151 : mPq jtab (yX11_step, cX11_step, 1, (some .int), KX11_step) := mPq_of 1570 [[], [], [], [], [], []] rfl (by decide +kernel) (by decide +kernel)
set_option maxRecDepth 100000 in
theorem okq_152 : mPq jtab (yX11_canStep, cX11_canStep, 3, (some .boolean), KX11_canStep) := mPq_of 1567 [[], [], [120, 1392, 1394, 36], [], [], [1278], [], [], [], [], [], [120, 1568, 1569], [], [120, 1385, 1386], [], [], [], [], []] rfl (by decide +kernel) (by decide +kernel)
set_option maxRecDepth 100000 in
theorem okq_153 : mPq jtab (yX11_move, cX11_move, 3, none, KX11_move) := mPq_of 1574 [[], [1278], [], [], [], [], [], [], [120, 1568, 1569], [], [], []] rfl (by decide +kernel) (by decide +kernel)
set_option maxRecDepth 100000 in
theorem okq_154 : mPq jtab (yX11_everyone, cX11_everyone, 1, (some .int), KX11_everyone) := mPq_of 1586 [[], [], [1278], [], [], [], [], [], []] rfl (by decide +kernel) (by decide +kernel)
set_option maxRecDepth 100000 in
theorem okq_155 : mPq jtab (yX11_tipOf, cX11_tipOf, 4, (some .int), KX11_tipOf) := mPq_of 1590 [[], [], [], [], [], [], [], [], [], [1278], [], [], [], [], [], [], [], [], [], [], [], [], [], [], [], [], [1278], [], [], [], [], [], [], [120, 1466, 1467], [], [], [1278], [], [], [], [], [], [1278], [], [], [], [], [], [], [], [], [], [], [], [], [], [], []] rfl (by decide +kernel) (by decide +kernel)
set_option maxRecDepth 100000 in
theorem okq_156 : mPq jtab (yX11_tipNow, cX11_tipNow, 1, (some .int), KX11_tipNow) := mPq_of 1582 [[], [], [120, 1583, 1585, 67], [120, 1587, 1589, 68], []] rfl (by decide +kernel) (by decide +kernel)
set_option maxRecDepth 100000 in
theorem okq_157 : mPq jtab (yX11_size, cX11_size, 1, (some .int), KX11_size) := mPq_of 1593 [[], [], [], [], [], [], []] rfl (by decide +kernel) (by decide +kernel)
set_option maxRecDepth 100000 in
theorem okq_158 : mPq jtab (yX11_weightOf, cX11_weightOf, 4, (some .int), KX11_weightOf) := mPq_of 1605 [[], [], [], [], [], [], [1278], [], [], [], [], [], [], [120, 1466, 1467], [], [], [1278], [], [], [], [], [], [], [], [], [], [], [], []] rfl (by decide +kernel) (by decide +kernel)
set_option maxRecDepth 100000 in
theorem okq_159 : mPq jtab (yX11_allSnow, cX11_allSnow, 3, (some .int), KX11_allSnow) := mPq_of 1609 [[], [], [], [], [], [], [], [], [], [1278], [], [], [], [], [], [], [], [], [], []] rfl (by decide +kernel) (by decide +kernel)
theorem okc_9 : ∀ q ∈ jtab_9, mPq jtab q := List.forall_mem_cons.mpr ⟨okq_144, List.forall_mem_cons.mpr ⟨okq_145, List.forall_mem_cons.mpr ⟨okq_146, List.forall_mem_cons.mpr ⟨okq_147, List.forall_mem_cons.mpr ⟨okq_148, List.forall_mem_cons.mpr ⟨okq_149, List.forall_mem_cons.mpr ⟨okq_150, List.forall_mem_cons.mpr ⟨okq_151, List.forall_mem_cons.mpr ⟨okq_152, List.forall_mem_cons.mpr ⟨okq_153, List.forall_mem_cons.mpr ⟨okq_154, List.forall_mem_cons.mpr ⟨okq_155, List.forall_mem_cons.mpr ⟨okq_156, List.forall_mem_cons.mpr ⟨okq_157, List.forall_mem_cons.mpr ⟨okq_158, List.forall_mem_cons.mpr ⟨okq_159, fun _ h => absurd h List.not_mem_nil⟩⟩⟩⟩⟩⟩⟩⟩⟩⟩⟩⟩⟩⟩⟩⟩
