/-! THE CODES ARE GOOD: part 6 (written by wip/gen/code12.py) -/
set_option maxRecDepth 100000 in
theorem okq_96 : mPq mtab (yX11_byteAt, cX11_byteAt, 2, (some .int), KX11_byteAt) := mPq_of 1421 [[], [], [1276], [], [], [1275], [], [], [], [], []] rfl (by decide +kernel) (by decide +kernel)
set_option maxRecDepth 100000 in
theorem okq_97 : mPq mtab (yX11_isFigure, cX11_isFigure, 1, (some .boolean), KX11_isFigure) := mPq_of 1424 [[], [], [], [], [], [], [], [], [], []] rfl (by decide +kernel) (by decide +kernel)
set_option maxRecDepth 100000 in
theorem okq_98 : mPq mtab (yX11_isLetterByte, cX11_isLetterByte, 1, (some .boolean), KX11_isLetterByte) := mPq_of 1428 [[], [], [], [], [], [], [], [], [], [], [], [], [], [], [], []] rfl (by decide +kernel) (by decide +kernel)
set_option maxRecDepth 100000 in
theorem okq_99 : mPq mtab (yX11_isSign, cX11_isSign, 1, (some .boolean), KX11_isSign) := mPq_of 1432 [[], [], [], [], [], []] rfl (by decide +kernel) (by decide +kernel)
set_option maxRecDepth 100000 in
theorem okq_100 : mPq mtab (yX11_nextToken, cX11_nextToken, 2, none, KX11_nextToken) := mPq_of 1417 [[], [], [1279], [120, 1418, 1420, 39], [], [], [], [], [1279], [120, 1418, 1420, 39], [], [], [], [], [1279], [], [], [1279], [], [], [], [1279], [1280], [], [], [1279], [120, 1418, 1420, 39], [], [], [], [], [], [1281], [], [], [120, 1422, 1423], [], [], [], [1281], [], [], [1282], [], [], [1279], [120, 1418, 1420, 39], [120, 1422, 1423], [], [], [], [1282], [1425], [], [], [1282], [], [], [], [1282], [], [], [], [1279], [120, 1418, 1420, 39], [], [], [], [1282], [], [], [1279], [], [], [1279], [], [], [120, 1426, 1427], [], [], [], [1281], [], [], [1283], [], [], [1279], [120, 1418, 1420, 39], [120, 1426, 1427], [], [], [], [1283], [], [], [], [], [], [1429], [], [], [1283], [], [], [], [], [1279], [120, 1418, 1420, 39], [], [], [1283], [], [], [1279], [], [], [1279], [], [], [], [120, 1430, 1431], [], [], [], [], [1281], [], [], [1279], [], [], [1279], [], [], [], [], [], [], [], [], [1279], [120, 1418, 1420, 39], [], [], [], [], [], [], [], [], [], [1281], [], [], [1279], [], [], [1279], []] rfl (by decide +kernel) (by decide +kernel)
set_option maxRecDepth 100000 in
theorem okq_101 : mPq mtab (yX11_w2, cX11_w2, 2, (some .long), KX11_w2) := mPq_of 1449 [[], [], [], [], [], [], [], []] rfl (by decide +kernel) (by decide +kernel)
set_option maxRecDepth 100000 in
theorem okq_102 : mPq mtab (yX11_w3, cX11_w3, 3, (some .long), KX11_w3) := mPq_of 1446 [[], [], [120, 1447, 1448], [], [], [], [], [], []] rfl (by decide +kernel) (by decide +kernel)
set_option maxRecDepth 100000 in
theorem okq_103 : mPq mtab (yX11_w4, cX11_w4, 4, (some .long), KX11_w4) := mPq_of 1443 [[], [], [], [120, 1444, 1445], [], [], [], [], [], []] rfl (by decide +kernel) (by decide +kernel)
set_option maxRecDepth 100000 in
theorem okq_104 : mPq mtab (yX11_isWord, cX11_isWord, 3, (some .boolean), KX11_isWord) := mPq_of 1453 [[], [1281], [], [], [], [1283], [], [], [], [], [], [], []] rfl (by decide +kernel) (by decide +kernel)
set_option maxRecDepth 100000 in
theorem okq_105 : mPq mtab (yX11_w5, cX11_w5, 5, (some .long), KX11_w5) := mPq_of 1459 [[], [], [], [], [120, 1441, 1442], [], [], [], [], [], []] rfl (by decide +kernel) (by decide +kernel)
set_option maxRecDepth 100000 in
theorem okq_106 : mPq mtab (yX11_w6, cX11_w6, 6, (some .long), KX11_w6) := mPq_of 1456 [[], [], [], [], [], [120, 1457, 1458], [], [], [], [], [], []] rfl (by decide +kernel) (by decide +kernel)
set_option maxRecDepth 100000 in
theorem okq_107 : mPq mtab (yX11_sortOf, cX11_sortOf, 1, (some .int), KX11_sortOf) := mPq_of 1440 [[], [], [], [], [], [120, 1441, 1442], [120, 1450, 1452, 42], [], [], [], [], [], [], [], [], [], [], [120, 1454, 1455], [120, 1450, 1452, 42], [], [], [], [], [], [], [], [], [], [], [120, 1454, 1455], [120, 1450, 1452, 42], [], [], [], [], [], [], [], [], [120, 1441, 1442], [120, 1450, 1452, 42], [], [], [], [], [], [], [], [], [120, 1441, 1442], [120, 1450, 1452, 42], [], [], [], [], [], [], [], [], [], [120, 1457, 1458], [120, 1450, 1452, 42], [], [], [], [], [], [], [], [], [], [], [120, 1454, 1455], [120, 1450, 1452, 42], [], [], [], [], [], [], [], [], [120, 1441, 1442], [120, 1450, 1452, 42], [], [], [], [], []] rfl (by decide +kernel) (by decide +kernel)
set_option maxRecDepth 100000 in
theorem okq_108 : mPq mtab (yX11_has, cX11_has, 2, (some .boolean), KX11_has) := mPq_of 1462 [[], [], [], [], [], [], [], [], [], [], []] rfl (by decide +kernel) (by decide +kernel)
set_option maxRecDepth 100000 in
theorem okq_109 : mPq mtab (yX11_figure, cX11_figure, 4, (some .int), KX11_figure) := mPq_of 1474 [[], [1281], [], [], [], [], [], [1282], [], [], [120, 1376, 1377], [], [], [], [], [1274], [], [], [1282], [], [], [120, 1414, 1416, 38], [], []] rfl (by decide +kernel) (by decide +kernel)
set_option maxRecDepth 100000 in
theorem okq_110 : mPq mtab (yX11_atPlace, cX11_atPlace, 5, (some .int), KX11_atPlace) := mPq_of 1470 [[], [], [], [], [], [], [120, 1471, 1473, 45], [], [], [], [], [], [], [], [], [120, 1447, 1448], [120, 1450, 1452, 42], [], [], [], [], [120, 1414, 1416, 38], [], [], [], [], [], [], [120, 1471, 1473, 45], []] rfl (by decide +kernel) (by decide +kernel)
set_option maxRecDepth 100000 in
theorem okq_111 : mPq mtab (yX11_openAt, cX11_openAt, 2, (some .int), KX11_openAt) := mPq_of 1498 [[], [1288], [], [], [], [], [], [], [1287], [], [], [], [], [], [], [], []] rfl (by decide +kernel) (by decide +kernel)
theorem okc_6 : ∀ q ∈ mtab_6, mPq mtab q := List.forall_mem_cons.mpr ⟨okq_96, List.forall_mem_cons.mpr ⟨okq_97, List.forall_mem_cons.mpr ⟨okq_98, List.forall_mem_cons.mpr ⟨okq_99, List.forall_mem_cons.mpr ⟨okq_100, List.forall_mem_cons.mpr ⟨okq_101, List.forall_mem_cons.mpr ⟨okq_102, List.forall_mem_cons.mpr ⟨okq_103, List.forall_mem_cons.mpr ⟨okq_104, List.forall_mem_cons.mpr ⟨okq_105, List.forall_mem_cons.mpr ⟨okq_106, List.forall_mem_cons.mpr ⟨okq_107, List.forall_mem_cons.mpr ⟨okq_108, List.forall_mem_cons.mpr ⟨okq_109, List.forall_mem_cons.mpr ⟨okq_110, List.forall_mem_cons.mpr ⟨okq_111, fun _ h => absurd h List.not_mem_nil⟩⟩⟩⟩⟩⟩⟩⟩⟩⟩⟩⟩⟩⟩⟩⟩
