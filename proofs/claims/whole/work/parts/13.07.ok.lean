/-! THE CODES ARE GOOD: part 6 (written by wip/gen/code12.py) -/
set_option maxRecDepth 100000 in
theorem okq_96 : mPq jtab (yX11_byteAt, cX11_byteAt, 2, (some .int), KX11_byteAt) := mPq_of 1427 [[], [], [1282], [], [], [1281], [], [], [], [], []] rfl (by decide +kernel) (by decide +kernel)
set_option maxRecDepth 100000 in
theorem okq_97 : mPq jtab (yX11_isFigure, cX11_isFigure, 1, (some .boolean), KX11_isFigure) := mPq_of 1430 [[], [], [], [], [], [], [], [], [], []] rfl (by decide +kernel) (by decide +kernel)
set_option maxRecDepth 100000 in
theorem okq_98 : mPq jtab (yX11_isLetterByte, cX11_isLetterByte, 1, (some .boolean), KX11_isLetterByte) := mPq_of 1434 [[], [], [], [], [], [], [], [], [], [], [], [], [], [], [], []] rfl (by decide +kernel) (by decide +kernel)
set_option maxRecDepth 100000 in
theorem okq_99 : mPq jtab (yX11_isSign, cX11_isSign, 1, (some .boolean), KX11_isSign) := mPq_of 1438 [[], [], [], [], [], []] rfl (by decide +kernel) (by decide +kernel)
set_option maxRecDepth 100000 in
theorem okq_100 : mPq jtab (yX11_nextToken, cX11_nextToken, 2, none, KX11_nextToken) := mPq_of 1423 [[], [], [1285], [120, 1424, 1426, 40], [], [], [], [], [1285], [120, 1424, 1426, 40], [], [], [], [], [1285], [], [], [1285], [], [], [], [1285], [1286], [], [], [1285], [120, 1424, 1426, 40], [], [], [], [], [], [1287], [], [], [120, 1428, 1429], [], [], [], [1287], [], [], [1288], [], [], [1285], [120, 1424, 1426, 40], [120, 1428, 1429], [], [], [], [1288], [1431], [], [], [1288], [], [], [], [1288], [], [], [], [1285], [120, 1424, 1426, 40], [], [], [], [1288], [], [], [1285], [], [], [1285], [], [], [120, 1432, 1433], [], [], [], [1287], [], [], [1289], [], [], [1285], [120, 1424, 1426, 40], [120, 1432, 1433], [], [], [], [1289], [], [], [], [], [], [1435], [], [], [1289], [], [], [], [], [1285], [120, 1424, 1426, 40], [], [], [1289], [], [], [1285], [], [], [1285], [], [], [], [120, 1436, 1437], [], [], [], [], [1287], [], [], [1285], [], [], [1285], [], [], [], [], [], [], [], [], [1285], [120, 1424, 1426, 40], [], [], [], [], [], [], [], [], [], [1287], [], [], [1285], [], [], [1285], []] rfl (by decide +kernel) (by decide +kernel)
set_option maxRecDepth 100000 in
theorem okq_101 : mPq jtab (yX11_w2, cX11_w2, 2, (some .long), KX11_w2) := mPq_of 1455 [[], [], [], [], [], [], [], []] rfl (by decide +kernel) (by decide +kernel)
set_option maxRecDepth 100000 in
theorem okq_102 : mPq jtab (yX11_w3, cX11_w3, 3, (some .long), KX11_w3) := mPq_of 1452 [[], [], [120, 1453, 1454], [], [], [], [], [], []] rfl (by decide +kernel) (by decide +kernel)
set_option maxRecDepth 100000 in
theorem okq_103 : mPq jtab (yX11_w4, cX11_w4, 4, (some .long), KX11_w4) := mPq_of 1449 [[], [], [], [120, 1450, 1451], [], [], [], [], [], []] rfl (by decide +kernel) (by decide +kernel)
set_option maxRecDepth 100000 in
theorem okq_104 : mPq jtab (yX11_isWord, cX11_isWord, 3, (some .boolean), KX11_isWord) := mPq_of 1459 [[], [1287], [], [], [], [1289], [], [], [], [], [], [], []] rfl (by decide +kernel) (by decide +kernel)
set_option maxRecDepth 100000 in
theorem okq_105 : mPq jtab (yX11_w5, cX11_w5, 5, (some .long), KX11_w5) := mPq_of 1465 [[], [], [], [], [120, 1447, 1448], [], [], [], [], [], []] rfl (by decide +kernel) (by decide +kernel)
set_option maxRecDepth 100000 in
theorem okq_106 : mPq jtab (yX11_w6, cX11_w6, 6, (some .long), KX11_w6) := mPq_of 1462 [[], [], [], [], [], [120, 1463, 1464], [], [], [], [], [], []] rfl (by decide +kernel) (by decide +kernel)
set_option maxRecDepth 100000 in
theorem okq_107 : mPq jtab (yX11_sortOf, cX11_sortOf, 1, (some .int), KX11_sortOf) := mPq_of 1446 [[], [], [], [], [], [120, 1447, 1448], [120, 1456, 1458, 43], [], [], [], [], [], [], [], [], [], [], [120, 1460, 1461], [120, 1456, 1458, 43], [], [], [], [], [], [], [], [], [], [], [120, 1460, 1461], [120, 1456, 1458, 43], [], [], [], [], [], [], [], [], [120, 1447, 1448], [120, 1456, 1458, 43], [], [], [], [], [], [], [], [], [120, 1447, 1448], [120, 1456, 1458, 43], [], [], [], [], [], [], [], [], [], [120, 1463, 1464], [120, 1456, 1458, 43], [], [], [], [], [], [], [], [], [], [], [120, 1460, 1461], [120, 1456, 1458, 43], [], [], [], [], [], [], [], [], [120, 1447, 1448], [120, 1456, 1458, 43], [], [], [], [], []] rfl (by decide +kernel) (by decide +kernel)
set_option maxRecDepth 100000 in
theorem okq_108 : mPq jtab (yX11_has, cX11_has, 2, (some .boolean), KX11_has) := mPq_of 1468 [[], [], [], [], [], [], [], [], [], [], []] rfl (by decide +kernel) (by decide +kernel)
set_option maxRecDepth 100000 in
theorem okq_109 : mPq jtab (yX11_figure, cX11_figure, 4, (some .int), KX11_figure) := mPq_of 1480 [[], [1287], [], [], [], [], [], [1288], [], [], [120, 1382, 1383], [], [], [], [], [1280], [], [], [1288], [], [], [120, 1420, 1422, 39], [], []] rfl (by decide +kernel) (by decide +kernel)
set_option maxRecDepth 100000 in
theorem okq_110 : mPq jtab (yX11_atPlace, cX11_atPlace, 5, (some .int), KX11_atPlace) := mPq_of 1476 [[], [], [], [], [], [], [120, 1477, 1479, 46], [], [], [], [], [], [], [], [], [120, 1453, 1454], [120, 1456, 1458, 43], [], [], [], [], [120, 1420, 1422, 39], [], [], [], [], [], [], [120, 1477, 1479, 46], []] rfl (by decide +kernel) (by decide +kernel)
set_option maxRecDepth 100000 in
theorem okq_111 : mPq jtab (yX11_openAt, cX11_openAt, 2, (some .int), KX11_openAt) := mPq_of 1504 [[], [1294], [], [], [], [], [], [], [1293], [], [], [], [], [], [], [], []] rfl (by decide +kernel) (by decide +kernel)
theorem okc_6 : ∀ q ∈ jtab_6, mPq jtab q := List.forall_mem_cons.mpr ⟨okq_96, List.forall_mem_cons.mpr ⟨okq_97, List.forall_mem_cons.mpr ⟨okq_98, List.forall_mem_cons.mpr ⟨okq_99, List.forall_mem_cons.mpr ⟨okq_100, List.forall_mem_cons.mpr ⟨okq_101, List.forall_mem_cons.mpr ⟨okq_102, List.forall_mem_cons.mpr ⟨okq_103, List.forall_mem_cons.mpr ⟨okq_104, List.forall_mem_cons.mpr ⟨okq_105, List.forall_mem_cons.mpr ⟨okq_106, List.forall_mem_cons.mpr ⟨okq_107, List.forall_mem_cons.mpr ⟨okq_108, List.forall_mem_cons.mpr ⟨okq_109, List.forall_mem_cons.mpr ⟨okq_110, List.forall_mem_cons.mpr ⟨okq_111, fun _ h => absurd h List.not_mem_nil⟩⟩⟩⟩⟩⟩⟩⟩⟩⟩⟩⟩⟩⟩⟩⟩
