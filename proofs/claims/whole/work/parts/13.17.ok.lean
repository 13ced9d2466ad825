/-! THE CODES ARE GOOD: part 16 (written by wip/gen/code12.py) -/
set_option maxRecDepth 100000 in
theorem okq_256 : mPq mtab (yX11_where, cX11_where, 3, (some .int), KX11_where) := mPq_of 1827 [[], [120, 1785, 1787, 93], [], [], [], [], [1272], [], [], [120, 1793, 1794], [], [], [1298], [], [], [], [], [], [], [1299], [], [], [120, 1789, 1791, 94], [], [], [1298], [], [120, 1789, 1791, 94], [], [], [], [], [], [120, 1804, 1805], [120, 1807, 1809, 97], []] rfl (by decide +kernel) (by decide +kernel)
set_option maxRecDepth 100000 in
theorem okq_257 : mPq mtab (yX10_holds, cX10_holds, 2, (some .boolean), KX10_holds) := mPq_of 1075 [[], [], [], [], [], [], [], [], [], [], []] rfl (by decide +kernel) (by decide +kernel)
set_option maxRecDepth 100000 in
theorem okq_258 : mPq mtab (yX2_wageOf, cX2_wageOf, 4, (some .int), KX2_wageOf) := mPq_of 1072 [[], [], [], [], [], [], [237], [], [], [], [111, 1073, 1074], [], [], [], [234], [], [], [], [], [], [], [], []] rfl (by decide +kernel) (by decide +kernel)
set_option maxRecDepth 100000 in
theorem okq_259 : mPq mtab (yJ6_bitCount_0f7a4, cJ6_bitCount_0f7a4, 1, (some .int), KJ6_bitCount_0f7a4) := mPq_of 1078 [[], [], [], [], [1079], [], [], [], [], [1080], [], [], [], [], [1080], [], [], [], [], [], [], [], [], [1081], [], [], [], [], [], [], [], [], [], [], [], [], [], [], [], [], [], []] rfl (by decide +kernel) (by decide +kernel)
set_option maxRecDepth 100000 in
theorem okq_260 : mPq mtab (yX2_isCheaper, cX2_isCheaper, 5, (some .boolean), KX2_isCheaper) := mPq_of 1068 [[], [], [115, 1069, 1070, 1071], [], [], [], [115, 1069, 1070, 1071], [], [], [], [], [], [], [], [], [131, 1076, 1077], [], [131, 1076, 1077], [], [], [], [], []] rfl (by decide +kernel) (by decide +kernel)
set_option maxRecDepth 100000 in
theorem okq_261 : mPq mtab (yX2_tipSeated, cX2_tipSeated, 6, (some .int), KX2_tipSeated) := mPq_of 1090 [[], [], [], [], [], [237], [], [], [], [], [], [], [], [111, 1073, 1074], [], [], [235], [], [], [], [], [], [], [], [], [], [], [], [233], [], [], [], [235], [], [], [], [], [], [], [], [], [], [], []] rfl (by decide +kernel) (by decide +kernel)
set_option maxRecDepth 100000 in
theorem okq_262 : mPq mtab (yX2_seat, cX2_seat, 5, (some .boolean), KX2_seat) := mPq_of 1085 [[1086], [], [131, 1076, 1077], [], [], [], [], [], [], [], [], [], [], [], [115, 1087, 1089, 31], [], [], [], [], [], [], [], []] rfl (by decide +kernel) (by decide +kernel)
set_option maxRecDepth 100000 in
theorem okq_263 : mPq mtab (yX2_cheapest, cX2_cheapest, 4, (some .int), KX2_cheapest) := mPq_of 1064 [[], [], [], [], [], [], [], [237], [], [], [], [], [], [], [], [], [115, 1065, 1067, 29], [], [], [], [], [115, 1082, 1084, 30], [], [], [], [], [], [], [], [], [], [], [], [115, 1082, 1084, 30], [], [], []] rfl (by decide +kernel) (by decide +kernel)
set_option maxRecDepth 100000 in
theorem okq_264 : mPq mtab (yX10_paid, cX10_paid, 3, (some .int), KX10_paid) := mPq_of 1060 [[], [411], [255], [], [411], [251], [113, 972, 825, 826], [115, 1061, 1062, 1063], [], [], [], [], [], [], [], [], [], [411], [255], [], [115, 1091, 1070, 1071], [], [], []] rfl (by decide +kernel) (by decide +kernel)
set_option maxRecDepth 100000 in
theorem okq_265 : mPq mtab (yX11_areStands, cX11_areStands, 5, (some .boolean), KX11_areStands) := mPq_of 1839 [[], [], [], [120, 1573, 1575, 65], [], [], [], [], [], [1272], [], [], [], [], [1301], [], [], [], [], [], [], [], [], [], [], [], [1301], [], [], [], [], [], [1272], [], [], [], [], [], [], [], [1301], [], [], [], [], [], [], [], [], [], [], [], [], [], [], [], [], []] rfl (by decide +kernel) (by decide +kernel)
set_option maxRecDepth 100000 in
theorem okq_266 : mPq mtab (yX11_standing, cX11_standing, 4, (some .int), KX11_standing) := mPq_of 1847 [[], [], [], [], [], [], [1272], [], [], [], [], [], [], [], [], [], [], [], [], [], [], [], [], [], [], [], []] rfl (by decide +kernel) (by decide +kernel)
set_option maxRecDepth 100000 in
theorem okq_267 : mPq mtab (yX11_wageOf, cX11_wageOf, 4, (some .int), KX11_wageOf) := mPq_of 1851 [[], [], [], [], [], [], [1272], [], [], [], [], [], [], [120, 1460, 1461], [], [], [1272], [], [], [], [], [], [], [], [], [], [], [], [], [], [], [], []] rfl (by decide +kernel) (by decide +kernel)
set_option maxRecDepth 100000 in
theorem okq_268 : mPq mtab (yX11_bits, cX11_bits, 3, (some .int), KX11_bits) := mPq_of 1764 [[], [], [], [], [], [], [], [], [], [], [], [], [], [], [], []] rfl (by decide +kernel) (by decide +kernel)
set_option maxRecDepth 100000 in
theorem okq_269 : mPq mtab (yX11_isBetter, cX11_isBetter, 4, (some .boolean), KX11_isBetter) := mPq_of 1843 [[], [], [1301], [120, 1844, 1846, 104], [], [], [], [1302], [120, 1844, 1846, 104], [], [], [], [120, 1848, 1850, 105], [], [], [120, 1848, 1850, 105], [], [], [], [120, 1848, 1850, 105], [], [], [120, 1848, 1850, 105], [], [], [], [], [], [], [120, 1762, 1763], [], [120, 1762, 1763], [], [], [120, 1762, 1763], [], [120, 1762, 1763], [], [], [], [], [], [], [], [], [], [], [], [], [], [], [], [], [], [], [], [1272], [], [], [], [], [1301], [], [], [], [1302], [], [], [], [], [1301], [], [], [], [1302], [], [], [], [], [], [], [], [], [], [], []] rfl (by decide +kernel) (by decide +kernel)
set_option maxRecDepth 100000 in
theorem okq_270 : mPq mtab (yX11_isPaid, cX11_isPaid, 5, (some .boolean), KX11_isPaid) := mPq_of 1835 [[], [], [], [], [], [], [], [], [1272], [], [], [], [], [], [], [], [], [], [], [], [], [], [], [], [], [120, 1836, 1838, 102], [], [], [], [], [120, 1840, 1842, 103], [], [], [], [], [], [], [], [], [1272], [], [], [], [], [1302], [], [], [1301], [], [], [], [], [], [], [], [], []] rfl (by decide +kernel) (by decide +kernel)
set_option maxRecDepth 100000 in
theorem okq_271 : mPq mtab (yX11_paid, cX11_paid, 2, (some .int), KX11_paid) := mPq_of 1831 [[], [120, 1832, 1834, 101], [], [], [], [], [], [], [], [], [1302], [120, 1844, 1846, 104], [120, 1848, 1850, 105], [], [], [], [1302], [120, 1844, 1846, 104], []] rfl (by decide +kernel) (by decide +kernel)
theorem okc_16 : ∀ q ∈ mtab_16, mPq mtab q := List.forall_mem_cons.mpr ⟨okq_256, List.forall_mem_cons.mpr ⟨okq_257, List.forall_mem_cons.mpr ⟨okq_258, List.forall_mem_cons.mpr ⟨okq_259, List.forall_mem_cons.mpr ⟨okq_260, List.forall_mem_cons.mpr ⟨okq_261, List.forall_mem_cons.mpr ⟨okq_262, List.forall_mem_cons.mpr ⟨okq_263, List.forall_mem_cons.mpr ⟨okq_264, List.forall_mem_cons.mpr ⟨okq_265, List.forall_mem_cons.mpr ⟨okq_266, List.forall_mem_cons.mpr ⟨okq_267, List.forall_mem_cons.mpr ⟨okq_268, List.forall_mem_cons.mpr ⟨okq_269, List.forall_mem_cons.mpr ⟨okq_270, List.forall_mem_cons.mpr ⟨okq_271, fun _ h => absurd h List.not_mem_nil⟩⟩⟩⟩⟩⟩⟩⟩⟩⟩⟩⟩⟩⟩⟩⟩
