/-! THE CODES ARE GOOD: part 21 (written by wip/gen/code12.py) -/
set_option maxRecDepth 100000 in
theorem okq_336 : mPq jtab (yX10_about, cX10_about, 2, (some .int), JX10_about) := mPq_of 1268 [[], [], [], [393], [252], [157], [], [], [393], [256], [239], [], [], [393], [260], [], [], [393], [262], [], [], [393], [254], [220], [], [], [393], [266], [], [], [397], [302], [], [], []] rfl (by decide +kernel) (by decide +kernel)
set_option maxRecDepth 100000 in
theorem okq_337 : mPq jtab (yX11_about, cX11_about, 2, (some .int), KX11_about) := mPq_of 1943 [[], [], [], [120, 1382, 1383], [], [], [1278], [], [], [], [], [], [], [], [1282], [], [], []] rfl (by decide +kernel) (by decide +kernel)
set_option maxRecDepth 100000 in
theorem okq_338 : mPq jtab (yX10_explored, cX10_explored, 3, (some (.object "BoroughBeam$Search")), JX10_explored) := mPq_of 988 [[], [399], [], [], [989, 990, 131], [], [131, 991, 992], [399], [], [395], [], [393], [252], [114, 972, 973, 974], [], [399], [], [395], [], [], [131, 1009, 1010, 1011], [], [399], []] rfl (by decide +kernel) (by decide +kernel)
theorem okc_21 : ∀ q ∈ jtab_21, mPq jtab q := List.forall_mem_cons.mpr ⟨okq_336, List.forall_mem_cons.mpr ⟨okq_337, List.forall_mem_cons.mpr ⟨okq_338, fun _ h => absurd h List.not_mem_nil⟩⟩⟩
