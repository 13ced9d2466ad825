/-! THE LAW, of the class as it stands -/
set_option maxRecDepth 100000 in
theorem law_lsk : ((KL_law.drop 3).all fun i => lsk okA i && jge 3 i) = true := by decide +kernel
set_option maxRecDepth 100000 in
theorem law_tfix : KL_law.all tfix = true := by decide +kernel
theorem law_clo : Clo okA 3 KL_law := by
  intro k i hk hi
  have hm : i ∈ KL_law.drop 3 := by
    refine List.mem_of_getElem? (i := k - 3) ?_
    rw [List.getElem?_drop, show 3 + (k - 3) = k by omega]
    exact hi
  have := List.all_eq_true.mp law_lsk i hm
  rwa [Bool.and_eq_true] at this
theorem law_pre (tb : List MT) (D : Nat) (h : MH) : mX (mE tb D) KL_law 0 [some (.ref 1), none, none, none] [] h = ck (kd (mA h 11 7) (mN h) = 11) (cV (mE tb D 8 [.ref (mN h)] (mA h 11 7)) (fun h2 => mX (mE tb D) KL_law 3 [some (.ref 1), none, none, none] [.ref (mN h)] h2)) := by
  refine mX_to 2 (k' := 2) (ls' := [some (.ref 1), none, none, none]) (st' := [.ref (mN h), .ref (mN h)]) (h' := (mA h 11 7)) rfl ?_
  refine mX_ckc (m := mcl (mE tb D 8 [.ref (mN h)] (mA h 11 7)) 0 3 [some (.ref 1), none, none, none] [.ref (mN h)]) rfl ?_
  refine mk_cV ?_
  intro h2
  rfl
theorem lawN_ok : lawOKN := by
  intro L xs hL
  obtain ⟨hF, e, b1, b2⟩ := law_ok L xs hL
  have n8 : mN (mh0 L xs) = 8 := rfl
  have k8 : kd (mA (mh0 L xs) 11 7) 8 = 11 := by rw [kd_mA, if_pos n8.symm]
  have fA : ([(0, 11, 7, 0)] : List (Nat × Nat × Nat × Nat)) ++ oi8 8 9 = lA := by rw [lA]
  have fB : ([(0, 11, 7, 0)] : List (Nat × Nat × Nat × Nat)) ++ oj8 8 9 = lB := by rw [lB]
  have m9 : mN (mA (mh0 L xs) 11 7) = 9 := by rw [mN_mA, n8]
  have eA := i8 97 (h := mA (mh0 L xs) 11 7) (a0 := 8) (m := 9) m9 (by decide) (by decide) k8
  have eB := j8 99 (h := mA (mh0 L xs) 11 7) (a0 := 8) (m := 9) m9 (by decide) (by decide) k8
  rw [ops_c11, fA] at eA
  rw [ops_c11, fB] at eB
  rw [law_pre, n8, ck_pos k8, eA, cV_some] at e
  have S0 := b_SS L xs
  generalize opsH (mh0 L xs) lA = gA at e S0
  generalize opsH (mh0 L xs) lB = gB at eB S0
  have h1 : m0 1 = some 1 := by decide
  have h8 : m0 8 = some 8 := by decide
  obtain ⟨m', v', g', e1, e2, e3, e4⟩ := sim_X (m := m0) (ls' := [some (.ref 1), none, none, none]) (st' := [.ref 8]) sim_api law_clo (Nat.le_refl 3) e S0 ⟨_, _, rfl, ⟨1, rfl, h1⟩, ⟨_, rfl, ⟨_, rfl, ⟨_, rfl, rfl⟩⟩⟩⟩ (Rs_cr h8 rfl)
  have e4 : v' = .int 1 := e4
  rw [tau_ids law_tfix, e4] at e1
  refine ⟨g', ?_, ?_, ?_⟩
  · rw [law_pre, n8, ck_pos k8, eB, cV_some]
    exact e1
  · rcases e3.2.2 with G | G
    · have := G.2.2.2.1; omega
    · have := G.2.1; omega
  · rcases e3.2.2 with G | G
    · have := G.2.2.2.2; omega
    · have := G.2.2; omega
