/-! THE CODES ARE GOOD: part 15 (written by wip/gen/code12.py) -/
set_option maxRecDepth 100000 in
theorem okq_240 : mPq jtab (yX5_goingsToGoals, cX5_goingsToGoals, 4, (some .int), KX5_goingsToGoals) := mPq_of 1052 [[], [999], [], [], [], [], [], [], [], [999], [], [], [], [], [], [], [], [995], [], [], [], [], [], [995], [], [], [], [], [], [], [], [], [], []] rfl (by decide +kernel) (by decide +kernel)
set_option maxRecDepth 100000 in
theorem okq_241 : mPq jtab (yX5_goingToGoals, cX5_goingToGoals, 5, (some .int), KX5_goingToGoals) := mPq_of 1056 [[], [131, 1057, 1050, 1051], [], [], [], [], [], [], [112, 1058, 420], [], [], [], [], [999], [], [], [], [], [], [], [], [], [], [995], [], [], [], [], [], [], [], [], [995], [], [], [], [], []] rfl (by decide +kernel) (by decide +kernel)
set_option maxRecDepth 100000 in
theorem okq_242 : mPq jtab (yX10_errands, cX10_errands, 4, (some .int), JX10_errands) := mPq_of 984 [[], [], [], [], [], [], [], [], [112, 985, 987, 27], [], [], [], [], [], [131, 1049, 1050, 1051], [], [], [], [131, 1053, 1054, 1055], []] rfl (by decide +kernel) (by decide +kernel)
set_option maxRecDepth 100000 in
theorem okq_243 : mPq jtab (yX11_standNow, cX11_standNow, 3, (some .int), KX11_standNow) := mPq_of 1798 [[], [], [], [1278], [], [], [], [], [], [], [], [], [], [], [], [1278], [], [], [], [], [], [], [], [], [], []] rfl (by decide +kernel) (by decide +kernel)
set_option maxRecDepth 100000 in
theorem okq_244 : mPq jtab (yX11_nines, cX11_nines, 3, (some .int), KX11_nines) := mPq_of 1801 [[], [], [], [], [], [], [], [], [], [], [], [], [], [], []] rfl (by decide +kernel) (by decide +kernel)
set_option maxRecDepth 100000 in
theorem okq_245 : mPq jtab (yX11_standSo, cX11_standSo, 4, none, KX11_standSo) := mPq_of 1805 [[], [], [], [], [], [], [1278], [], [], [], [], [1278], [], [], [], [], [], [], [], [], [], [], [], [], [], []] rfl (by decide +kernel) (by decide +kernel)
set_option maxRecDepth 100000 in
theorem okq_246 : mPq jtab (yX11_layGood, cX11_layGood, 3, none, KX11_layGood) := mPq_of 1794 [[], [120, 1795, 1797, 95], [], [], [], [], [], [1278], [], [], [120, 1799, 1800], [], [], [], [120, 1802, 1804, 96], [], [1306], [], [], [120, 1575, 1577, 65], [], [], [], [], [], [], [], [], [], [120, 1802, 1804, 96], []] rfl (by decide +kernel) (by decide +kernel)
set_option maxRecDepth 100000 in
theorem okq_247 : mPq jtab (yX11_areThere, cX11_areThere, 5, (some .boolean), KX11_areThere) := mPq_of 1809 [[], [], [], [], [], [], [], [], [1278], [], [], [], [], [], [1278], [], [], [], [], [], [], [], [1278], [], [], [], [], [], [], [], [], [], [], [], [], [], [], [], [], [], [], [], [], []] rfl (by decide +kernel) (by decide +kernel)
set_option maxRecDepth 100000 in
theorem okq_248 : mPq jtab (yX11_top, cX11_top, 1, (some .int), KX11_top) := mPq_of 1812 [[], [], [], [], [], []] rfl (by decide +kernel) (by decide +kernel)
set_option maxRecDepth 100000 in
theorem okq_249 : mPq jtab (yX11_stepOf, cX11_stepOf, 5, (some .int), KX11_stepOf) := mPq_of 1824 [[], [], [120, 1799, 1800], [], [], [], [], [120, 1568, 1569], [], [], [], [], [120, 1392, 1394, 36], [], [], [120, 1385, 1386], [], [], [120, 1568, 1569], [], [120, 1799, 1800], [], [], [], []] rfl (by decide +kernel) (by decide +kernel)
set_option maxRecDepth 100000 in
theorem okq_250 : mPq jtab (yX11_gone, cX11_gone, 8, (some .int), KX11_gone) := mPq_of 1820 [[], [], [], [], [], [], [], [], [], [], [], [], [], [], [], [], [], [], [], [120, 1821, 1823, 100], [], [], [], [], [], [], [1306], [], [], [], [], [], [], [], [], [], [], [], [], [], [], [], [], [], [], [], [], [], [], [], [], [], [], [], [], [], [], [], [], [], [], [], [], [], [], [120, 1821, 1823, 100], [], [], [], [], [], [], [], [], [], [], [], [], [120, 1821, 1823, 100], [], [], [], [], [], [], [], [], [], [1306], [], [], [], [], [], [], [], [], [], [], [], [], [], [], []] rfl (by decide +kernel) (by decide +kernel)
set_option maxRecDepth 100000 in
theorem okq_251 : mPq jtab (yX11_spread, cX11_spread, 7, (some .int), KX11_spread) := mPq_of 1816 [[], [], [], [], [], [], [], [], [], [], [], [], [], [], [1305], [], [], [], [120, 1817, 1819, 99], [], [], [], [], [], [1304], [], [], [], [], [], [], [1304], [], [], [1304], [], [1305], [], [], [], [], [], [], [], [1305], [], [], [], [], [], [], [], [], [], []] rfl (by decide +kernel) (by decide +kernel)
set_option maxRecDepth 100000 in
theorem okq_252 : mPq jtab (yX11_layFars, cX11_layFars, 4, none, KX11_layFars) := mPq_of 1790 [[], [120, 1791, 1793, 94], [], [], [], [], [], [], [1278], [], [], [120, 1799, 1800], [], [], [1304], [], [], [1306], [], [], [], [], [], [120, 1806, 1808, 97], [], [], [], [], [], [], [1304], [], [], [], [], [], [], [1305], [], [], [], [], [], [], [], [], [], [120, 1810, 1811], [120, 1813, 1815, 98], [], [], []] rfl (by decide +kernel) (by decide +kernel)
set_option maxRecDepth 100000 in
theorem okq_253 : mPq jtab (yX11_nextGoing, cX11_nextGoing, 7, (some .int), KX11_nextGoing) := mPq_of 1828 [[], [], [1829], [], [], [], [], [], [120, 1810, 1811], [], [], [], [], [120, 1817, 1819, 99], [], [], [], [], [], [1304], [], [], [], [], [], [1304], [], [], [], [], [], [], [1304], [], [], [], [], [], [], [], [], []] rfl (by decide +kernel) (by decide +kernel)
set_option maxRecDepth 100000 in
theorem okq_254 : mPq jtab (yX11_errands, cX11_errands, 6, (some .int), KX11_errands) := mPq_of 1786 [[], [], [120, 1787, 1789, 93], [], [120, 1795, 1797, 95], [], [], [], [], [], [], [], [120, 1806, 1808, 97], [], [], [], [], [], [], [], [], [], [], [120, 1825, 1827, 101], [], [], [], [], [], [], [], [], [], [120, 1817, 1819, 99], [], [], [], [], [], [], [], [], [], [], [], [], [], [], [], [], [], [], []] rfl (by decide +kernel) (by decide +kernel)
set_option maxRecDepth 100000 in
theorem okq_255 : mPq jtab (yX10_where, cX10_where, 2, (some .int), JX10_where) := mPq_of 1062 [[], [], [], [112, 985, 987, 27], [998], []] rfl (by decide +kernel) (by decide +kernel)
theorem okc_15 : ∀ q ∈ jtab_15, mPq jtab q := List.forall_mem_cons.mpr ⟨okq_240, List.forall_mem_cons.mpr ⟨okq_241, List.forall_mem_cons.mpr ⟨okq_242, List.forall_mem_cons.mpr ⟨okq_243, List.forall_mem_cons.mpr ⟨okq_244, List.forall_mem_cons.mpr ⟨okq_245, List.forall_mem_cons.mpr ⟨okq_246, List.forall_mem_cons.mpr ⟨okq_247, List.forall_mem_cons.mpr ⟨okq_248, List.forall_mem_cons.mpr ⟨okq_249, List.forall_mem_cons.mpr ⟨okq_250, List.forall_mem_cons.mpr ⟨okq_251, List.forall_mem_cons.mpr ⟨okq_252, List.forall_mem_cons.mpr ⟨okq_253, List.forall_mem_cons.mpr ⟨okq_254, List.forall_mem_cons.mpr ⟨okq_255, fun _ h => absurd h List.not_mem_nil⟩⟩⟩⟩⟩⟩⟩⟩⟩⟩⟩⟩⟩⟩⟩⟩
