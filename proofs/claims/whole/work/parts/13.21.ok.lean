/-! THE CODES ARE GOOD: part 20 (written by wip/gen/code12.py) -/
set_option maxRecDepth 100000 in
theorem okq_320 : mPq jtab (yX11_lone, cX11_lone, 3, (some .int), KX11_lone) := mPq_of 1767 [[], [], [], [], [], [], [1278], [], [], [], [], [], [], [1278], [], [], [], [], [120, 1632, 1634, 78], [120, 1768, 1769], [], [], [], [], [], [], [], [], [], [], [], [], []] rfl (by decide +kernel) (by decide +kernel)
set_option maxRecDepth 100000 in
theorem okq_321 : mPq jtab (yX10_heaviest, cX10_heaviest, 5, (some .int), KX10_heaviest) := mPq_of 1228 [[], [], [], [], [], [], [], [], [], [], [393], [252], [], [114, 949, 826, 827], [], [], [], [], [], [], [], [], [], [], [], []] rfl (by decide +kernel) (by decide +kernel)
set_option maxRecDepth 100000 in
theorem okq_322 : mPq jtab (yX11_heaviest, cX11_heaviest, 3, (some .int), KX11_heaviest) := mPq_of 1774 [[], [], [], [], [], [], [], [], [], [120, 1628, 1630, 77], [], [], [], [], [], [], [], [120, 1628, 1630, 77], [], [], [], [], [], [], []] rfl (by decide +kernel) (by decide +kernel)
set_option maxRecDepth 100000 in
theorem okq_323 : mPq jtab (yX9_timesWritten, cX9_timesWritten, 4, (some .int), KX9_timesWritten) := mPq_of 1236 [[], [], [], [], [], [], [179], [], [], [], [], [114, 1237, 965, 966], [], [], [], [], [], [], []] rfl (by decide +kernel) (by decide +kernel)
set_option maxRecDepth 100000 in
theorem okq_324 : mPq jtab (yX10_travelled, cX10_travelled, 5, (some .int), KX10_travelled) := mPq_of 1232 [[], [], [], [], [], [], [], [], [393], [252], [157], [], [], [393], [252], [], [114, 1233, 1234, 1235], [], [], [], [], [], [], [], [], [], [], [], []] rfl (by decide +kernel) (by decide +kernel)
set_option maxRecDepth 100000 in
theorem okq_325 : mPq jtab (yX11_linesOf, cX11_linesOf, 4, (some .int), KX11_linesOf) := mPq_of 1755 [[], [], [], [], [], [], [1278], [], [], [], [], [], [], [], [], [], [], [120, 1744, 1746, 91], [], [], [], [], [], [], [], [], [], [], []] rfl (by decide +kernel) (by decide +kernel)
set_option maxRecDepth 100000 in
theorem okq_326 : mPq jtab (yX11_travelled, cX11_travelled, 3, (some .int), KX11_travelled) := mPq_of 1759 [[], [], [], [], [], [], [1278], [], [], [], [], [], [120, 1752, 1754, 92], [], [], [], [], [], [], [], [120, 1752, 1754, 92], [], [], [], [], [], [], []] rfl (by decide +kernel) (by decide +kernel)
set_option maxRecDepth 100000 in
theorem okq_327 : mPq jtab (yX10_ledger, cX10_ledger, 2, (some .int), KX10_ledger) := mPq_of 1241 [[], [], [], [], [393], [252], [181], [], [], [393], [252], [], [114, 939, 435, 436], [], [], [393], [252], [], [114, 1233, 1234, 1235], [], [], []] rfl (by decide +kernel) (by decide +kernel)
set_option maxRecDepth 100000 in
theorem okq_328 : mPq jtab (yX11_ledger, cX11_ledger, 2, (some .int), KX11_ledger) := mPq_of 1751 [[], [], [], [], [], [120, 1392, 1394, 36], [], [], [], [120, 1752, 1754, 92], [], [], []] rfl (by decide +kernel) (by decide +kernel)
set_option maxRecDepth 100000 in
theorem okq_329 : mPq jtab (yX6_copyFrom, cX6_copyFrom, 2, none, KX6_copyFrom) := mPq_of 1254 [[], [217], [], [], [217], [], [], [793, 720, 719, 129], [], [], [218], [218], [], [], [219], [219], []] rfl (by decide +kernel) (by decide +kernel)
set_option maxRecDepth 100000 in
theorem okq_330 : mPq jtab (yX2_copyFrom, cX2_copyFrom, 2, none, KX2_copyFrom) := mPq_of 1258 [[], [234], [], [], [234], [], [], [1259, 720, 719, 129], [], [235], [], [], [235], [], [], [1259, 720, 719, 129], [], [], [238], [238], []] rfl (by decide +kernel) (by decide +kernel)
set_option maxRecDepth 100000 in
theorem okq_331 : mPq jtab (yX0_copyFrom, cX0_copyFrom, 3, none, KX0_copyFrom) := mPq_of 1249 [[], [251], [], [251], [114, 1250, 973, 974], [], [253], [], [253], [115, 1251, 1252, 1253], [], [255], [], [255], [116, 1255, 1256, 1257], [], [], [], [], [], [], [257], [], [], [257], [], [], [], [], [], [], [], [259], [259], [], [], [261], [261], [], [263], [], [], [263], [], [], [1260, 720, 719, 129], [], [264], [], [], [264], [], [], [1260, 720, 719, 129], [], [], [265], [265], []] rfl (by decide +kernel) (by decide +kernel)
set_option maxRecDepth 100000 in
theorem okq_332 : mPq jtab (yX10_image, cX10_image, 1, (some .int), KX10_image) := mPq_of 1245 [[], [394], [], [393], [113, 1246, 1247, 1248], [], [393], [252], [173], []] rfl (by decide +kernel) (by decide +kernel)
set_option maxRecDepth 100000 in
theorem okq_333 : mPq jtab (yX11_image, cX11_image, 1, (some .int), KX11_image) := mPq_of 1935 [[], [1278], [], [1279], [120, 1275, 1276], [], [1278], [], [], []] rfl (by decide +kernel) (by decide +kernel)
set_option maxRecDepth 100000 in
theorem okq_334 : mPq jtab (yX10_back, cX10_back, 1, (some .int), KX10_back) := mPq_of 1264 [[], [393], [], [394], [113, 1246, 1247, 1248], [], [393], [252], [173], []] rfl (by decide +kernel) (by decide +kernel)
set_option maxRecDepth 100000 in
theorem okq_335 : mPq jtab (yX11_back, cX11_back, 1, (some .int), KX11_back) := mPq_of 1939 [[], [1279], [], [1278], [120, 1275, 1276], [], [1278], [], [], []] rfl (by decide +kernel) (by decide +kernel)
theorem okc_20 : ∀ q ∈ jtab_20, mPq jtab q := List.forall_mem_cons.mpr ⟨okq_320, List.forall_mem_cons.mpr ⟨okq_321, List.forall_mem_cons.mpr ⟨okq_322, List.forall_mem_cons.mpr ⟨okq_323, List.forall_mem_cons.mpr ⟨okq_324, List.forall_mem_cons.mpr ⟨okq_325, List.forall_mem_cons.mpr ⟨okq_326, List.forall_mem_cons.mpr ⟨okq_327, List.forall_mem_cons.mpr ⟨okq_328, List.forall_mem_cons.mpr ⟨okq_329, List.forall_mem_cons.mpr ⟨okq_330, List.forall_mem_cons.mpr ⟨okq_331, List.forall_mem_cons.mpr ⟨okq_332, List.forall_mem_cons.mpr ⟨okq_333, List.forall_mem_cons.mpr ⟨okq_334, List.forall_mem_cons.mpr ⟨okq_335, fun _ h => absurd h List.not_mem_nil⟩⟩⟩⟩⟩⟩⟩⟩⟩⟩⟩⟩⟩⟩⟩⟩
