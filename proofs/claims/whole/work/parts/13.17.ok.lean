/-! THE CODES ARE GOOD: part 16 (written by wip/gen/code12.py) -/
set_option maxRecDepth 100000 in
theorem okq_256 : mPq jtab (yX11_where, cX11_where, 3, (some .int), KX11_where) := mPq_of 1833 [[], [120, 1791, 1793, 94], [], [], [], [], [1278], [], [], [120, 1799, 1800], [], [], [1304], [], [], [], [], [], [], [1305], [], [], [120, 1795, 1797, 95], [], [], [1304], [], [120, 1795, 1797, 95], [], [], [], [], [], [120, 1810, 1811], [120, 1813, 1815, 98], []] rfl (by decide +kernel) (by decide +kernel)
set_option maxRecDepth 100000 in
theorem okq_257 : mPq jtab (yX10_holds, cX10_holds, 2, (some .boolean), KX10_holds) := mPq_of 1081 [[], [], [], [], [], [], [], [], [], [], []] rfl (by decide +kernel) (by decide +kernel)
set_option maxRecDepth 100000 in
theorem okq_258 : mPq jtab (yX2_wageOf, cX2_wageOf, 4, (some .int), KX2_wageOf) := mPq_of 1078 [[], [], [], [], [], [], [238], [], [], [], [112, 1079, 1080], [], [], [], [235], [], [], [], [], [], [], [], []] rfl (by decide +kernel) (by decide +kernel)
set_option maxRecDepth 100000 in
theorem okq_259 : mPq jtab (yJ6_bitCount_0f7a4, cJ6_bitCount_0f7a4, 1, (some .int), KJ6_bitCount_0f7a4) := mPq_of 1084 [[], [], [], [], [1085], [], [], [], [], [1086], [], [], [], [], [1086], [], [], [], [], [], [], [], [], [1087], [], [], [], [], [], [], [], [], [], [], [], [], [], [], [], [], [], []] rfl (by decide +kernel) (by decide +kernel)
set_option maxRecDepth 100000 in
theorem okq_260 : mPq jtab (yX2_isCheaper, cX2_isCheaper, 5, (some .boolean), KX2_isCheaper) := mPq_of 1074 [[], [], [116, 1075, 1076, 1077], [], [], [], [116, 1075, 1076, 1077], [], [], [], [], [], [], [], [], [132, 1082, 1083], [], [132, 1082, 1083], [], [], [], [], []] rfl (by decide +kernel) (by decide +kernel)
set_option maxRecDepth 100000 in
theorem okq_261 : mPq jtab (yX2_tipSeated, cX2_tipSeated, 6, (some .int), KX2_tipSeated) := mPq_of 1096 [[], [], [], [], [], [238], [], [], [], [], [], [], [], [112, 1079, 1080], [], [], [236], [], [], [], [], [], [], [], [], [], [], [], [234], [], [], [], [236], [], [], [], [], [], [], [], [], [], [], []] rfl (by decide +kernel) (by decide +kernel)
set_option maxRecDepth 100000 in
theorem okq_262 : mPq jtab (yX2_seat, cX2_seat, 5, (some .boolean), KX2_seat) := mPq_of 1091 [[1092], [], [132, 1082, 1083], [], [], [], [], [], [], [], [], [], [], [], [116, 1093, 1095, 32], [], [], [], [], [], [], [], []] rfl (by decide +kernel) (by decide +kernel)
set_option maxRecDepth 100000 in
theorem okq_263 : mPq jtab (yX2_cheapest, cX2_cheapest, 4, (some .int), KX2_cheapest) := mPq_of 1070 [[], [], [], [], [], [], [], [238], [], [], [], [], [], [], [], [], [116, 1071, 1073, 30], [], [], [], [], [116, 1088, 1090, 31], [], [], [], [], [], [], [], [], [], [], [], [116, 1088, 1090, 31], [], [], []] rfl (by decide +kernel) (by decide +kernel)
set_option maxRecDepth 100000 in
theorem okq_264 : mPq jtab (yX10_paid, cX10_paid, 3, (some .int), KX10_paid) := mPq_of 1066 [[], [393], [256], [], [393], [252], [114, 954, 807, 808], [116, 1067, 1068, 1069], [], [], [], [], [], [], [], [], [], [393], [256], [], [116, 1097, 1076, 1077], [], [], []] rfl (by decide +kernel) (by decide +kernel)
set_option maxRecDepth 100000 in
theorem okq_265 : mPq jtab (yX11_areStands, cX11_areStands, 5, (some .boolean), KX11_areStands) := mPq_of 1845 [[], [], [], [120, 1579, 1581, 66], [], [], [], [], [], [1278], [], [], [], [], [1307], [], [], [], [], [], [], [], [], [], [], [], [1307], [], [], [], [], [], [1278], [], [], [], [], [], [], [], [1307], [], [], [], [], [], [], [], [], [], [], [], [], [], [], [], [], []] rfl (by decide +kernel) (by decide +kernel)
set_option maxRecDepth 100000 in
theorem okq_266 : mPq jtab (yX11_standing, cX11_standing, 4, (some .int), KX11_standing) := mPq_of 1853 [[], [], [], [], [], [], [1278], [], [], [], [], [], [], [], [], [], [], [], [], [], [], [], [], [], [], [], []] rfl (by decide +kernel) (by decide +kernel)
set_option maxRecDepth 100000 in
theorem okq_267 : mPq jtab (yX11_wageOf, cX11_wageOf, 4, (some .int), KX11_wageOf) := mPq_of 1857 [[], [], [], [], [], [], [1278], [], [], [], [], [], [], [120, 1466, 1467], [], [], [1278], [], [], [], [], [], [], [], [], [], [], [], [], [], [], [], []] rfl (by decide +kernel) (by decide +kernel)
set_option maxRecDepth 100000 in
theorem okq_268 : mPq jtab (yX11_bits, cX11_bits, 3, (some .int), KX11_bits) := mPq_of 1770 [[], [], [], [], [], [], [], [], [], [], [], [], [], [], [], []] rfl (by decide +kernel) (by decide +kernel)
set_option maxRecDepth 100000 in
theorem okq_269 : mPq jtab (yX11_isBetter, cX11_isBetter, 4, (some .boolean), KX11_isBetter) := mPq_of 1849 [[], [], [1307], [120, 1850, 1852, 105], [], [], [], [1308], [120, 1850, 1852, 105], [], [], [], [120, 1854, 1856, 106], [], [], [120, 1854, 1856, 106], [], [], [], [120, 1854, 1856, 106], [], [], [120, 1854, 1856, 106], [], [], [], [], [], [], [120, 1768, 1769], [], [120, 1768, 1769], [], [], [120, 1768, 1769], [], [120, 1768, 1769], [], [], [], [], [], [], [], [], [], [], [], [], [], [], [], [], [], [], [], [1278], [], [], [], [], [1307], [], [], [], [1308], [], [], [], [], [1307], [], [], [], [1308], [], [], [], [], [], [], [], [], [], [], []] rfl (by decide +kernel) (by decide +kernel)
set_option maxRecDepth 100000 in
theorem okq_270 : mPq jtab (yX11_isPaid, cX11_isPaid, 5, (some .boolean), KX11_isPaid) := mPq_of 1841 [[], [], [], [], [], [], [], [], [1278], [], [], [], [], [], [], [], [], [], [], [], [], [], [], [], [], [120, 1842, 1844, 103], [], [], [], [], [120, 1846, 1848, 104], [], [], [], [], [], [], [], [], [1278], [], [], [], [], [1308], [], [], [1307], [], [], [], [], [], [], [], [], []] rfl (by decide +kernel) (by decide +kernel)
set_option maxRecDepth 100000 in
theorem okq_271 : mPq jtab (yX11_paid, cX11_paid, 2, (some .int), KX11_paid) := mPq_of 1837 [[], [120, 1838, 1840, 102], [], [], [], [], [], [], [], [], [1308], [120, 1850, 1852, 105], [120, 1854, 1856, 106], [], [], [], [1308], [120, 1850, 1852, 105], []] rfl (by decide +kernel) (by decide +kernel)
theorem okc_16 : ∀ q ∈ jtab_16, mPq jtab q := List.forall_mem_cons.mpr ⟨okq_256, List.forall_mem_cons.mpr ⟨okq_257, List.forall_mem_cons.mpr ⟨okq_258, List.forall_mem_cons.mpr ⟨okq_259, List.forall_mem_cons.mpr ⟨okq_260, List.forall_mem_cons.mpr ⟨okq_261, List.forall_mem_cons.mpr ⟨okq_262, List.forall_mem_cons.mpr ⟨okq_263, List.forall_mem_cons.mpr ⟨okq_264, List.forall_mem_cons.mpr ⟨okq_265, List.forall_mem_cons.mpr ⟨okq_266, List.forall_mem_cons.mpr ⟨okq_267, List.forall_mem_cons.mpr ⟨okq_268, List.forall_mem_cons.mpr ⟨okq_269, List.forall_mem_cons.mpr ⟨okq_270, List.forall_mem_cons.mpr ⟨okq_271, fun _ h => absurd h List.not_mem_nil⟩⟩⟩⟩⟩⟩⟩⟩⟩⟩⟩⟩⟩⟩⟩⟩
