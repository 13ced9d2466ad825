/-! THE CODES ARE GOOD: part 15 (written by wip/gen/code12.py) -/
set_option maxRecDepth 100000 in
theorem okq_240 : mPq mtab (yX5_goingsToGoals, cX5_goingsToGoals, 4, (some .int), KX5_goingsToGoals) := mPq_of 1046 [[], [375], [], [], [], [], [], [], [], [375], [], [], [], [], [], [], [], [371], [], [], [], [], [], [371], [], [], [], [], [], [], [], [], [], []] rfl (by decide +kernel) (by decide +kernel)
set_option maxRecDepth 100000 in
theorem okq_241 : mPq mtab (yX5_goingToGoals, cX5_goingToGoals, 5, (some .int), KX5_goingToGoals) := mPq_of 1050 [[], [118, 1051, 1044, 1045], [], [], [], [], [], [], [111, 1052, 438], [], [], [], [], [375], [], [], [], [], [], [], [], [], [], [371], [], [], [], [], [], [], [], [], [371], [], [], [], [], []] rfl (by decide +kernel) (by decide +kernel)
set_option maxRecDepth 100000 in
theorem okq_242 : mPq mtab (yX10_errands, cX10_errands, 3, (some .int), KX10_errands) := mPq_of 1002 [[], [], [], [], [], [], [413], [], [411], [251], [113, 990, 991, 992], [], [416], [], [413], [], [], [118, 1003, 1004, 1005], [], [], [], [], [416], [118, 1043, 1044, 1045], [], [], [416], [], [118, 1047, 1048, 1049], []] rfl (by decide +kernel) (by decide +kernel)
set_option maxRecDepth 100000 in
theorem okq_243 : mPq mtab (yX11_standNow, cX11_standNow, 3, (some .int), KX11_standNow) := mPq_of 1792 [[], [], [], [1272], [], [], [], [], [], [], [], [], [], [], [], [1272], [], [], [], [], [], [], [], [], [], []] rfl (by decide +kernel) (by decide +kernel)
set_option maxRecDepth 100000 in
theorem okq_244 : mPq mtab (yX11_nines, cX11_nines, 3, (some .int), KX11_nines) := mPq_of 1795 [[], [], [], [], [], [], [], [], [], [], [], [], [], [], []] rfl (by decide +kernel) (by decide +kernel)
set_option maxRecDepth 100000 in
theorem okq_245 : mPq mtab (yX11_standSo, cX11_standSo, 4, none, KX11_standSo) := mPq_of 1799 [[], [], [], [], [], [], [1272], [], [], [], [], [1272], [], [], [], [], [], [], [], [], [], [], [], [], [], []] rfl (by decide +kernel) (by decide +kernel)
set_option maxRecDepth 100000 in
theorem okq_246 : mPq mtab (yX11_layGood, cX11_layGood, 3, none, KX11_layGood) := mPq_of 1788 [[], [120, 1789, 1791, 94], [], [], [], [], [], [1272], [], [], [120, 1793, 1794], [], [], [], [120, 1796, 1798, 95], [], [1300], [], [], [120, 1569, 1571, 64], [], [], [], [], [], [], [], [], [], [120, 1796, 1798, 95], []] rfl (by decide +kernel) (by decide +kernel)
set_option maxRecDepth 100000 in
theorem okq_247 : mPq mtab (yX11_areThere, cX11_areThere, 5, (some .boolean), KX11_areThere) := mPq_of 1803 [[], [], [], [], [], [], [], [], [1272], [], [], [], [], [], [1272], [], [], [], [], [], [], [], [1272], [], [], [], [], [], [], [], [], [], [], [], [], [], [], [], [], [], [], [], [], []] rfl (by decide +kernel) (by decide +kernel)
set_option maxRecDepth 100000 in
theorem okq_248 : mPq mtab (yX11_top, cX11_top, 1, (some .int), KX11_top) := mPq_of 1806 [[], [], [], [], [], []] rfl (by decide +kernel) (by decide +kernel)
set_option maxRecDepth 100000 in
theorem okq_249 : mPq mtab (yX11_stepOf, cX11_stepOf, 5, (some .int), KX11_stepOf) := mPq_of 1818 [[], [], [120, 1793, 1794], [], [], [], [], [120, 1562, 1563], [], [], [], [], [120, 1386, 1388, 35], [], [], [120, 1379, 1380], [], [], [120, 1562, 1563], [], [120, 1793, 1794], [], [], [], []] rfl (by decide +kernel) (by decide +kernel)
set_option maxRecDepth 100000 in
theorem okq_250 : mPq mtab (yX11_gone, cX11_gone, 8, (some .int), KX11_gone) := mPq_of 1814 [[], [], [], [], [], [], [], [], [], [], [], [], [], [], [], [], [], [], [], [120, 1815, 1817, 99], [], [], [], [], [], [], [1300], [], [], [], [], [], [], [], [], [], [], [], [], [], [], [], [], [], [], [], [], [], [], [], [], [], [], [], [], [], [], [], [], [], [], [], [], [], [], [120, 1815, 1817, 99], [], [], [], [], [], [], [], [], [], [], [], [], [120, 1815, 1817, 99], [], [], [], [], [], [], [], [], [], [1300], [], [], [], [], [], [], [], [], [], [], [], [], [], [], []] rfl (by decide +kernel) (by decide +kernel)
set_option maxRecDepth 100000 in
theorem okq_251 : mPq mtab (yX11_spread, cX11_spread, 7, (some .int), KX11_spread) := mPq_of 1810 [[], [], [], [], [], [], [], [], [], [], [], [], [], [], [1299], [], [], [], [120, 1811, 1813, 98], [], [], [], [], [], [1298], [], [], [], [], [], [], [1298], [], [], [1298], [], [1299], [], [], [], [], [], [], [], [1299], [], [], [], [], [], [], [], [], [], []] rfl (by decide +kernel) (by decide +kernel)
set_option maxRecDepth 100000 in
theorem okq_252 : mPq mtab (yX11_layFars, cX11_layFars, 4, none, KX11_layFars) := mPq_of 1784 [[], [120, 1785, 1787, 93], [], [], [], [], [], [], [1272], [], [], [120, 1793, 1794], [], [], [1298], [], [], [1300], [], [], [], [], [], [120, 1800, 1802, 96], [], [], [], [], [], [], [1298], [], [], [], [], [], [], [1299], [], [], [], [], [], [], [], [], [], [120, 1804, 1805], [120, 1807, 1809, 97], [], [], []] rfl (by decide +kernel) (by decide +kernel)
set_option maxRecDepth 100000 in
theorem okq_253 : mPq mtab (yX11_nextGoing, cX11_nextGoing, 7, (some .int), KX11_nextGoing) := mPq_of 1822 [[], [], [1823], [], [], [], [], [], [120, 1804, 1805], [], [], [], [], [120, 1811, 1813, 98], [], [], [], [], [], [1298], [], [], [], [], [], [1298], [], [], [], [], [], [], [1298], [], [], [], [], [], [], [], [], []] rfl (by decide +kernel) (by decide +kernel)
set_option maxRecDepth 100000 in
theorem okq_254 : mPq mtab (yX11_errands, cX11_errands, 6, (some .int), KX11_errands) := mPq_of 1780 [[], [], [120, 1781, 1783, 92], [], [120, 1789, 1791, 94], [], [], [], [], [], [], [], [120, 1800, 1802, 96], [], [], [], [], [], [], [], [], [], [], [120, 1819, 1821, 100], [], [], [], [], [], [], [], [], [], [120, 1811, 1813, 98], [], [], [], [], [], [], [], [], [], [], [], [], [], [], [], [], [], [], []] rfl (by decide +kernel) (by decide +kernel)
set_option maxRecDepth 100000 in
theorem okq_255 : mPq mtab (yX10_where, cX10_where, 2, (some .int), KX10_where) := mPq_of 1056 [[], [413], [], [411], [251], [113, 990, 991, 992], [], [416], [], [413], [], [], [118, 1003, 1004, 1005], [], [416], [374], []] rfl (by decide +kernel) (by decide +kernel)
theorem okc_15 : ∀ q ∈ mtab_15, mPq mtab q := List.forall_mem_cons.mpr ⟨okq_240, List.forall_mem_cons.mpr ⟨okq_241, List.forall_mem_cons.mpr ⟨okq_242, List.forall_mem_cons.mpr ⟨okq_243, List.forall_mem_cons.mpr ⟨okq_244, List.forall_mem_cons.mpr ⟨okq_245, List.forall_mem_cons.mpr ⟨okq_246, List.forall_mem_cons.mpr ⟨okq_247, List.forall_mem_cons.mpr ⟨okq_248, List.forall_mem_cons.mpr ⟨okq_249, List.forall_mem_cons.mpr ⟨okq_250, List.forall_mem_cons.mpr ⟨okq_251, List.forall_mem_cons.mpr ⟨okq_252, List.forall_mem_cons.mpr ⟨okq_253, List.forall_mem_cons.mpr ⟨okq_254, List.forall_mem_cons.mpr ⟨okq_255, fun _ h => absurd h List.not_mem_nil⟩⟩⟩⟩⟩⟩⟩⟩⟩⟩⟩⟩⟩⟩⟩⟩
