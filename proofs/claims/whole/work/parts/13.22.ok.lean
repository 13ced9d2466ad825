/-! THE CODES ARE GOOD: part 21 (written by wip/gen/code12.py) -/
set_option maxRecDepth 100000 in
theorem okq_336 : mPq mtab (yX10_about, cX10_about, 2, (some .int), KX10_about) := mPq_of 1262 [[], [], [], [411], [251], [156], [], [], [411], [255], [238], [], [], [411], [259], [], [], [411], [261], [], [], [411], [253], [219], [], [], [411], [265], [], [], [414], [295], [], [], []] rfl (by decide +kernel) (by decide +kernel)
set_option maxRecDepth 100000 in
theorem okq_337 : mPq mtab (yX11_about, cX11_about, 2, (some .int), KX11_about) := mPq_of 1937 [[], [], [], [120, 1376, 1377], [], [], [1272], [], [], [], [], [], [], [], [1276], [], [], []] rfl (by decide +kernel) (by decide +kernel)
theorem okc_21 : ∀ q ∈ mtab_21, mPq mtab q := List.forall_mem_cons.mpr ⟨okq_336, List.forall_mem_cons.mpr ⟨okq_337, fun _ h => absurd h List.not_mem_nil⟩⟩
