/-! THE CODES ARE GOOD: part 20 (written by wip/gen/code12.py) -/
set_option maxRecDepth 100000 in
theorem okq_320 : mPq mtab (yX11_lone, cX11_lone, 3, (some .int), KX11_lone) := mPq_of 1761 [[], [], [], [], [], [], [1272], [], [], [], [], [], [], [1272], [], [], [], [], [120, 1626, 1628, 77], [120, 1762, 1763], [], [], [], [], [], [], [], [], [], [], [], [], []] rfl (by decide +kernel) (by decide +kernel)
set_option maxRecDepth 100000 in
theorem okq_321 : mPq mtab (yX10_heaviest, cX10_heaviest, 5, (some .int), KX10_heaviest) := mPq_of 1222 [[], [], [], [], [], [], [], [], [], [], [411], [251], [], [113, 967, 844, 845], [], [], [], [], [], [], [], [], [], [], [], []] rfl (by decide +kernel) (by decide +kernel)
set_option maxRecDepth 100000 in
theorem okq_322 : mPq mtab (yX11_heaviest, cX11_heaviest, 3, (some .int), KX11_heaviest) := mPq_of 1768 [[], [], [], [], [], [], [], [], [], [120, 1622, 1624, 76], [], [], [], [], [], [], [], [120, 1622, 1624, 76], [], [], [], [], [], [], []] rfl (by decide +kernel) (by decide +kernel)
set_option maxRecDepth 100000 in
theorem okq_323 : mPq mtab (yX9_timesWritten, cX9_timesWritten, 4, (some .int), KX9_timesWritten) := mPq_of 1230 [[], [], [], [], [], [], [178], [], [], [], [], [113, 1231, 983, 984], [], [], [], [], [], [], []] rfl (by decide +kernel) (by decide +kernel)
set_option maxRecDepth 100000 in
theorem okq_324 : mPq mtab (yX10_travelled, cX10_travelled, 5, (some .int), KX10_travelled) := mPq_of 1226 [[], [], [], [], [], [], [], [], [411], [251], [156], [], [], [411], [251], [], [113, 1227, 1228, 1229], [], [], [], [], [], [], [], [], [], [], [], []] rfl (by decide +kernel) (by decide +kernel)
set_option maxRecDepth 100000 in
theorem okq_325 : mPq mtab (yX11_linesOf, cX11_linesOf, 4, (some .int), KX11_linesOf) := mPq_of 1749 [[], [], [], [], [], [], [1272], [], [], [], [], [], [], [], [], [], [], [120, 1738, 1740, 90], [], [], [], [], [], [], [], [], [], [], []] rfl (by decide +kernel) (by decide +kernel)
set_option maxRecDepth 100000 in
theorem okq_326 : mPq mtab (yX11_travelled, cX11_travelled, 3, (some .int), KX11_travelled) := mPq_of 1753 [[], [], [], [], [], [], [1272], [], [], [], [], [], [120, 1746, 1748, 91], [], [], [], [], [], [], [], [120, 1746, 1748, 91], [], [], [], [], [], [], []] rfl (by decide +kernel) (by decide +kernel)
set_option maxRecDepth 100000 in
theorem okq_327 : mPq mtab (yX10_ledger, cX10_ledger, 2, (some .int), KX10_ledger) := mPq_of 1235 [[], [], [], [], [411], [251], [180], [], [], [411], [251], [], [113, 957, 453, 454], [], [], [411], [251], [], [113, 1227, 1228, 1229], [], [], []] rfl (by decide +kernel) (by decide +kernel)
set_option maxRecDepth 100000 in
theorem okq_328 : mPq mtab (yX11_ledger, cX11_ledger, 2, (some .int), KX11_ledger) := mPq_of 1745 [[], [], [], [], [], [120, 1386, 1388, 35], [], [], [], [120, 1746, 1748, 91], [], [], []] rfl (by decide +kernel) (by decide +kernel)
set_option maxRecDepth 100000 in
theorem okq_329 : mPq mtab (yX6_copyFrom, cX6_copyFrom, 2, none, KX6_copyFrom) := mPq_of 1248 [[], [216], [], [], [216], [], [], [811, 738, 737, 129], [], [], [217], [217], [], [], [218], [218], []] rfl (by decide +kernel) (by decide +kernel)
set_option maxRecDepth 100000 in
theorem okq_330 : mPq mtab (yX2_copyFrom, cX2_copyFrom, 2, none, KX2_copyFrom) := mPq_of 1252 [[], [233], [], [], [233], [], [], [1253, 738, 737, 129], [], [234], [], [], [234], [], [], [1253, 738, 737, 129], [], [], [237], [237], []] rfl (by decide +kernel) (by decide +kernel)
set_option maxRecDepth 100000 in
theorem okq_331 : mPq mtab (yX0_copyFrom, cX0_copyFrom, 3, none, KX0_copyFrom) := mPq_of 1243 [[], [250], [], [250], [113, 1244, 991, 992], [], [252], [], [252], [114, 1245, 1246, 1247], [], [254], [], [254], [115, 1249, 1250, 1251], [], [], [], [], [], [], [256], [], [], [256], [], [], [], [], [], [], [], [258], [258], [], [], [260], [260], [], [262], [], [], [262], [], [], [1254, 738, 737, 129], [], [263], [], [], [263], [], [], [1254, 738, 737, 129], [], [], [264], [264], []] rfl (by decide +kernel) (by decide +kernel)
set_option maxRecDepth 100000 in
theorem okq_332 : mPq mtab (yX10_image, cX10_image, 1, (some .int), KX10_image) := mPq_of 1239 [[], [412], [], [411], [112, 1240, 1241, 1242], [], [411], [251], [172], []] rfl (by decide +kernel) (by decide +kernel)
set_option maxRecDepth 100000 in
theorem okq_333 : mPq mtab (yX11_image, cX11_image, 1, (some .int), KX11_image) := mPq_of 1929 [[], [1272], [], [1273], [120, 1269, 1270], [], [1272], [], [], []] rfl (by decide +kernel) (by decide +kernel)
set_option maxRecDepth 100000 in
theorem okq_334 : mPq mtab (yX10_back, cX10_back, 1, (some .int), KX10_back) := mPq_of 1258 [[], [411], [], [412], [112, 1240, 1241, 1242], [], [411], [251], [172], []] rfl (by decide +kernel) (by decide +kernel)
set_option maxRecDepth 100000 in
theorem okq_335 : mPq mtab (yX11_back, cX11_back, 1, (some .int), KX11_back) := mPq_of 1933 [[], [1273], [], [1272], [120, 1269, 1270], [], [1272], [], [], []] rfl (by decide +kernel) (by decide +kernel)
theorem okc_20 : ∀ q ∈ mtab_20, mPq mtab q := List.forall_mem_cons.mpr ⟨okq_320, List.forall_mem_cons.mpr ⟨okq_321, List.forall_mem_cons.mpr ⟨okq_322, List.forall_mem_cons.mpr ⟨okq_323, List.forall_mem_cons.mpr ⟨okq_324, List.forall_mem_cons.mpr ⟨okq_325, List.forall_mem_cons.mpr ⟨okq_326, List.forall_mem_cons.mpr ⟨okq_327, List.forall_mem_cons.mpr ⟨okq_328, List.forall_mem_cons.mpr ⟨okq_329, List.forall_mem_cons.mpr ⟨okq_330, List.forall_mem_cons.mpr ⟨okq_331, List.forall_mem_cons.mpr ⟨okq_332, List.forall_mem_cons.mpr ⟨okq_333, List.forall_mem_cons.mpr ⟨okq_334, List.forall_mem_cons.mpr ⟨okq_335, fun _ h => absurd h List.not_mem_nil⟩⟩⟩⟩⟩⟩⟩⟩⟩⟩⟩⟩⟩⟩⟩⟩
