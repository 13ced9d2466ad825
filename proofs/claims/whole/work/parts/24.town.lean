--deps:19.lay 21.facts 22.00.names 22.01.eq 22.02.eq 22.03.eq 22.04.eq 22.05.eq 22.06.eq 22.07.eq 22.08.eq 22.09.eq 22.10.eq 22.11.eq 22.12.eq 22.13.eq 22.14.eq 22.15.eq 22.16.eq 22.17.eq 22.18.eq 22.19.eq 22.20.eq 22.21.eq 22.22.eq 22.23.eq 23.num
/-! TOWN AND MODEL: the readers that ask no law -/
set_option linter.unusedSectionVars false
/-- n people of weights W in places P, snow SN -/
def twn (h : MH) (q n : Nat) (W P SN : Nat → Nat) : Prop := n ≤ 4 ∧ gI h q 0 = nI n ∧ (∀ p, p < n → gI h (q + 1) p = nI (W p) ∧ W p ≤ 9) ∧ (∀ p, p < n → gI h (q + 2) p = nI (P p) ∧ P p ≤ 8) ∧ (∀ c, c < 9 → gI h (q + 4) c = nI (SN c) ∧ SN c ≤ 9)
def mdl (h : MH) (n : Nat) (W P SN : Nat → Nat) : Prop := n ≤ 4 ∧ gI h 68 0 = nI n ∧ (∀ p, p < n → gI h 68 (22 + p) = nI (W p) ∧ W p ≤ 9) ∧ (∀ p, p < n → gI h 68 (9 + p) = nI (P p) ∧ P p ≤ 8) ∧ (∀ c, c < 9 → gI h 68 (13 + c) = nI (SN c) ∧ SN c ≤ 9)
def tipZ (n : Nat) (W P SN : Nat → Nat) : Int := sumZ (fun p => (W p : Int) * ((P p : Int) - 4)) n + sumZ (fun c => (SN c : Int) * ((c : Int) - 4)) 9
section TWN
theorem c_within {h : MH} (L : lay h) (d : Nat) (v lo hi : Int32) : F_X10_within (d + 1) v lo hi h = some (.int (bI (lo ≤ v ∧ v ≤ hi)), h) := s_within d h v lo hi
theorem m_isIn {h : MH} (L : lay h) (d : Nat) (v lo hi : Int32) : F_X11_isIn (d + 1) v lo hi h = some (.int (bI (lo ≤ v ∧ v ≤ hi)), h) := s_isIn d h v lo hi
theorem m_isPlace {h : MH} (L : lay h) (d : Nat) (v : Int32) : F_X11_isPlace (d + 2) v h = some (.int (bI (ib v 9)), h) := (s_isPlace d h v).trans (by rw [show (0 ≤ v ∧ v ≤ 8) = (0 ≤ v ∧ v ≤ nI 9 - 1) from rfl, bI_iff (ib_iff (n := 9) (by omega))])
theorem c_holds {h : MH} (L : lay h) (d : Nat) {S m : Nat} (hS : S < 2 ^ 31) (hm : m < 31) : F_X10_holds (d + 1) (nI S) (nI m) h = some (.int (if S.testBit m then 1 else 0), h) := by
  rw [S_X10_holds L d, has_nI hS hm]
  by_cases hb : S.testBit m <;> simp [hb]
theorem m_has' {h : MH} (L : lay h) (d : Nat) {S m : Nat} (hS : S < 2 ^ 31) (hm : m < 31) : F_X11_has (d + 1) (nI S) (nI m) h = some (.int (if S.testBit m then 1 else 0), h) := by
  rw [S_X11_has L d, has_nI hS hm]
  by_cases hb : S.testBit m <;> simp [hb]
section
theorem c_has {h : MH} (L : lay h) (d : Nat) {q : Nat} (T : tAt q) {n : Nat} {W : Nat → Nat} {P : Nat → Nat} {SN : Nat → Nat} (t : twn h q n W P SN) (p : Int32) : F_X9_has (d + 2) q p h = some (.int (bI (ib p n)), h) := by
  rw [S_X9_has L (d + 1) q p T, c_within L, cI_some, ck_pos bI_rt, t.2.1, bI_iff (ib_iff (by have := t.1; omega))]
theorem c_tipNow {h : MH} (L : lay h) (d : Nat) {q : Nat} (T : tAt q) {n : Nat} {W : Nat → Nat} {P : Nat → Nat} {SN : Nat → Nat} (t : twn h q n W P SN) : F_X9_tipNow (d + 1) q h = some (.int (zI (tipZ n W P SN)), h) := by
  obtain ⟨hn, e0, hW, hP, hS⟩ := t
  rw [S_X9_tipNow L d q T]
  have p1 := loop_all (n := n) (F := fun i => G_X9_tipNow_4 d q (zI (sumZ (fun p => (W p : Int) * ((P p : Int) - 4)) i)) (nI i) h) (fun i hi => by
    show G_X9_tipNow_4 _ _ _ _ _ = _
    rw [S_X9_tipNow_4 L d q T]
    simp (disch := omega) only [e0, hW, hP, nI_ltI, nI_leI, nI_eq, nIl, nIL, nIe, nIz, ib_nIi, ib_L, ix_L, ck_pos, if_pos, if_neg, lt_def, ck_true, true_and, and_true, true_or, or_true, ix_nI, nI_1, nIa, nIb, nI_add, cI_some, cR_some, cL_some, cV_some, if_true, if_false, Bool.false_eq_true, ne_eq, not_true_eq_false, not_false_eq_true]
    simp only [nI_zI, lit_zI, zI_add, zI_mul, zI_sub, zI_neg, if_true, if_false, Bool.false_eq_true, sumZ_s i]
    rfl)
  refine p1.trans ?_
  show G_X9_tipNow_4 _ _ _ _ _ = _
  rw [S_X9_tipNow_4 L d q T]
  simp (disch := omega) only [e0, nI_ltI, nI_leI, nI_eq, nIl, nIL, nIe, nIz, ib_nIi, ib_L, ix_L, ck_pos, if_pos, if_neg, lt_def, ck_true, true_and, and_true, true_or, or_true, ix_nI, nI_1, nIa, nIb, nI_add, cI_some, cR_some, cL_some, cV_some, if_true, if_false, Bool.false_eq_true, ne_eq, not_true_eq_false, not_false_eq_true]
  have p2 := loop_all (n := 9) (F := fun i => G_X9_tipNow_26 d q (zI (sumZ (fun p => (W p : Int) * ((P p : Int) - 4)) n + sumZ (fun c => (SN c : Int) * ((c : Int) - 4)) i)) (nI i) h) (fun i hi => by
    show G_X9_tipNow_26 _ _ _ _ _ = _
    rw [S_X9_tipNow_26 L d q T]
    simp (disch := omega) only [hS, nI_ltI, nI_leI, nI_eq, nIl, nIL, nIe, nIz, ib_nIi, ib_L, ix_L, ck_pos, if_pos, if_neg, lt_def, ck_true, true_and, and_true, true_or, or_true, ix_nI, nI_1, nIa, nIb, nI_add, cI_some, cR_some, cL_some, cV_some, if_true, if_false, Bool.false_eq_true, ne_eq, not_true_eq_false, not_false_eq_true]
    simp only [nI_zI, lit_zI, zI_add, zI_mul, zI_sub, zI_neg, if_true, if_false, Bool.false_eq_true, sumZ_s i, Int.add_assoc]
    rfl)
  simp only [sumZ, Int.add_zero] at p2
  refine p2.trans ?_
  rw [S_X9_tipNow_26 L d q T, if_neg (by decide +kernel)]
  rfl
theorem c_weightOf {h : MH} (L : lay h) (d : Nat) {q : Nat} (T : tAt q) {n : Nat} {W : Nat → Nat} {P : Nat → Nat} {SN : Nat → Nat} (t : twn h q n W P SN) {S : Nat} (hS : S < 2 ^ 31) : F_X9_weightOf (d + 2) q (nI S) h = some (.int (nI (sumN (fun p => if S.testBit p then W p else 0) n)), h) := by
  obtain ⟨hn, e0, hW, hP, hS'⟩ := t
  rw [S_X9_weightOf L (d + 1) q _ T]
  refine (loop_all (n := n) (F := fun i => G_X9_weightOf_4 (d + 1) q (nI S) (nI (sumN (fun p => if S.testBit p then W p else 0) i)) (nI i) h) (fun i hi => ?_)).trans ?_
  · show G_X9_weightOf_4 _ _ _ _ _ _ = _
    rw [S_X9_weightOf_4 L (d + 1) q T, c_holds L d hS (by omega)]
    by_cases hb : S.testBit i
    · simp (disch := omega) only [e0, hW, nI_ltI, nI_leI, nI_eq, nIl, nIL, nIe, nIz, ib_nIi, ib_L, ix_L, ck_pos, if_pos, if_neg, lt_def, ck_true, true_and, and_true, true_or, or_true, ix_nI, nI_1, nIa, nIb, nI_add, cI_some, cR_some, cL_some, cV_some, if_true, if_false, Bool.false_eq_true, ne_eq, not_true_eq_false, not_false_eq_true, hb, if_true, show ¬ (1 : Int32) = 0 by decide, S_X9_weightOf_19 L _ _ T, sumN_s i]
    · simp (disch := omega) only [e0, hW, nI_ltI, nI_leI, nI_eq, nIl, nIL, nIe, nIz, ib_nIi, ib_L, ix_L, ck_pos, if_pos, if_neg, lt_def, ck_true, true_and, and_true, true_or, or_true, ix_nI, nI_1, nIa, nIb, nI_add, cI_some, cR_some, cL_some, cV_some, if_true, if_false, Bool.false_eq_true, ne_eq, not_true_eq_false, not_false_eq_true, hb, if_false, S_X9_weightOf_19 L _ _ T, sumN_s i, Bool.false_eq_true, Nat.add_zero]
  · show G_X9_weightOf_4 _ _ _ _ _ _ = _
    rw [S_X9_weightOf_4 L (d + 1) q T]
    simp (disch := omega) only [e0, nI_ltI, nI_leI, nI_eq, nIl, nIL, nIe, nIz, ib_nIi, ib_L, ix_L, ck_pos, if_pos, if_neg, lt_def, ck_true, true_and, and_true, true_or, or_true, ix_nI, nI_1, nIa, nIb, nI_add, cI_some, cR_some, cL_some, cV_some, if_true, if_false, Bool.false_eq_true, ne_eq, not_true_eq_false, not_false_eq_true]
theorem c_weightOfAll {h : MH} (L : lay h) (d : Nat) {q : Nat} (T : tAt q) {n : Nat} {W : Nat → Nat} {P : Nat → Nat} {SN : Nat → Nat} (t : twn h q n W P SN) : F_X9_weightOfAll (d + 1) q h = some (.int (nI (sumN W n + sumN SN 9)), h) := by
  obtain ⟨hn, e0, hW, hP, hS⟩ := t
  rw [S_X9_weightOfAll L d q T]
  refine (loop_all (n := n) (F := fun i => G_X9_weightOfAll_4 d q (nI (sumN W i)) (nI i) h) (fun i hi => ?_)).trans ?_
  · show G_X9_weightOfAll_4 _ _ _ _ _ = _
    rw [S_X9_weightOfAll_4 L d q T]
    simp (disch := omega) only [e0, hW, nI_ltI, nI_leI, nI_eq, nIl, nIL, nIe, nIz, ib_nIi, ib_L, ix_L, ck_pos, if_pos, if_neg, lt_def, ck_true, true_and, and_true, true_or, or_true, ix_nI, nI_1, nIa, nIb, nI_add, cI_some, cR_some, cL_some, cV_some, if_true, if_false, Bool.false_eq_true, ne_eq, not_true_eq_false, not_false_eq_true, sumN_s i]
  · show G_X9_weightOfAll_4 _ _ _ _ _ = _
    rw [S_X9_weightOfAll_4 L d q T]
    simp (disch := omega) only [e0, nI_ltI, nI_leI, nI_eq, nIl, nIL, nIe, nIz, ib_nIi, ib_L, ix_L, ck_pos, if_pos, if_neg, lt_def, ck_true, true_and, and_true, true_or, or_true, ix_nI, nI_1, nIa, nIb, nI_add, cI_some, cR_some, cL_some, cV_some, if_true, if_false, Bool.false_eq_true, ne_eq, not_true_eq_false, not_false_eq_true]
    refine (loop_all (n := 9) (F := fun i => G_X9_weightOfAll_19 d q (nI (sumN W n + sumN SN i)) (nI i) h) (fun i hi => ?_)).trans ?_
    · show G_X9_weightOfAll_19 _ _ _ _ _ = _
      rw [S_X9_weightOfAll_19 L d q T]
      simp (disch := omega) only [hS, nI_ltI, nI_leI, nI_eq, nIl, nIL, nIe, nIz, ib_nIi, ib_L, ix_L, ck_pos, if_pos, if_neg, lt_def, ck_true, true_and, and_true, true_or, or_true, ix_nI, nI_1, nIa, nIb, nI_add, cI_some, cR_some, cL_some, cV_some, if_true, if_false, Bool.false_eq_true, ne_eq, not_true_eq_false, not_false_eq_true, sumN_s i, Nat.add_assoc]
    · show G_X9_weightOfAll_19 _ _ _ _ _ = _
      rw [S_X9_weightOfAll_19 L d q T]
      simp (disch := omega) only [nI_ltI, nI_leI, nI_eq, nIl, nIL, nIe, nIz, ib_nIi, ib_L, ix_L, ck_pos, if_pos, if_neg, lt_def, ck_true, true_and, and_true, true_or, or_true, ix_nI, nI_1, nIa, nIb, nI_add, cI_some, cR_some, cL_some, cV_some, if_true, if_false, Bool.false_eq_true, ne_eq, not_true_eq_false, not_false_eq_true]
theorem c_peopleAt {h : MH} (L : lay h) (d : Nat) {q : Nat} (T : tAt q) {n : Nat} {W : Nat → Nat} {P : Nat → Nat} {SN : Nat → Nat} (t : twn h q n W P SN) {C : Nat} (hC : C < 9) : F_X9_peopleAt (d + 1) q (nI C) h = some (.int (nI (setN (fun p => P p == C) n)), h) := by
  obtain ⟨hn, e0, hW, hP, hS⟩ := t
  rw [S_X9_peopleAt L d q _ T]
  refine (loop_all (n := n) (F := fun i => G_X9_peopleAt_4 d q (nI C) (nI (setN (fun p => P p == C) i)) (nI i) h) (fun i hi => ?_)).trans ?_
  · show G_X9_peopleAt_4 _ _ _ _ _ _ = _
    have hp := (hP i hi).2
    have hs := setN_lt (fun p => P p == C) i
    have h4 : 2 ^ i ≤ 2 ^ 4 := Nat.pow_le_pow_right (by decide) (by omega)
    rw [S_X9_peopleAt_4 L d q T, ← setN_or]
    by_cases hb : P i = C
    · simp (disch := omega) only [e0, hP, nI_ltI, nI_leI, nI_eq, nIl, nIL, nIe, nIz, ib_nIi, ib_L, ix_L, ck_pos, if_pos, if_neg, lt_def, ck_true, true_and, and_true, true_or, or_true, ix_nI, nI_1, nIa, nIb, nI_add, cI_some, cR_some, cL_some, cV_some, if_true, if_false, Bool.false_eq_true, ne_eq, not_true_eq_false, not_false_eq_true, hb, beq_self_eq_true, if_true, one_shl, or_nI, S_X9_peopleAt_20 L _ _ T]
    · simp (disch := omega) only [e0, hP, nI_ltI, nI_leI, nI_eq, nIl, nIL, nIe, nIz, ib_nIi, ib_L, ix_L, ck_pos, if_pos, if_neg, lt_def, ck_true, true_and, and_true, true_or, or_true, ix_nI, nI_1, nIa, nIb, nI_add, cI_some, cR_some, cL_some, cV_some, if_true, if_false, Bool.false_eq_true, ne_eq, not_true_eq_false, not_false_eq_true, beq_false_of_ne hb, Bool.false_eq_true, if_false, S_X9_peopleAt_20 L _ _ T, Nat.or_zero]
  · show G_X9_peopleAt_4 _ _ _ _ _ _ = _
    rw [S_X9_peopleAt_4 L d q T]
    simp (disch := omega) only [e0, nI_ltI, nI_leI, nI_eq, nIl, nIL, nIe, nIz, ib_nIi, ib_L, ix_L, ck_pos, if_pos, if_neg, lt_def, ck_true, true_and, and_true, true_or, or_true, ix_nI, nI_1, nIa, nIb, nI_add, cI_some, cR_some, cL_some, cV_some, if_true, if_false, Bool.false_eq_true, ne_eq, not_true_eq_false, not_false_eq_true]
theorem c_weightAt {h : MH} (L : lay h) (d : Nat) {q : Nat} (T : tAt q) {n : Nat} {W : Nat → Nat} {P : Nat → Nat} {SN : Nat → Nat} (t : twn h q n W P SN) {C : Nat} (hC : C < 9) : F_X9_weightAt (d + 1) q (nI C) h = some (.int (nI (SN C + sumN (fun p => if P p = C then W p else 0) n)), h) := by
  obtain ⟨hn, e0, hW, hP, hS⟩ := t
  rw [S_X9_weightAt L d q _ T]
  simp (disch := omega) only [nI_ltI, nI_leI, nI_eq, nIl, nIL, nIe, nIz, ib_nIi, ib_L, ix_L, ck_pos, if_pos, if_neg, lt_def, ck_true, true_and, and_true, true_or, or_true, ix_nI, nI_1, nIa, nIb, nI_add, cI_some, cR_some, cL_some, cV_some, if_true, if_false, Bool.false_eq_true, ne_eq, not_true_eq_false, not_false_eq_true, hS]
  refine (loop_all (n := n) (F := fun i => G_X9_weightAt_14 d q (nI C) (nI (SN C + sumN (fun p => if P p = C then W p else 0) i)) (nI i) h) (fun i hi => ?_)).trans ?_
  · show G_X9_weightAt_14 _ _ _ _ _ _ = _
    have hp := (hP i hi).2
    rw [S_X9_weightAt_14 L d q T]
    by_cases hb : P i = C
    · simp (disch := omega) only [e0, hP, hW, nI_ltI, nI_leI, nI_eq, nIl, nIL, nIe, nIz, ib_nIi, ib_L, ix_L, ck_pos, if_pos, if_neg, lt_def, ck_true, true_and, and_true, true_or, or_true, ix_nI, nI_1, nIa, nIb, nI_add, cI_some, cR_some, cL_some, cV_some, if_true, if_false, Bool.false_eq_true, ne_eq, not_true_eq_false, not_false_eq_true, hb, S_X9_weightAt_31 L _ _ T, sumN_s i, Nat.add_assoc]
    · simp (disch := omega) only [e0, hP, nI_ltI, nI_leI, nI_eq, nIl, nIL, nIe, nIz, ib_nIi, ib_L, ix_L, ck_pos, if_pos, if_neg, lt_def, ck_true, true_and, and_true, true_or, or_true, ix_nI, nI_1, nIa, nIb, nI_add, cI_some, cR_some, cL_some, cV_some, if_true, if_false, Bool.false_eq_true, ne_eq, not_true_eq_false, not_false_eq_true, hb, S_X9_weightAt_31 L _ _ T, sumN_s i, Nat.add_zero]
  · show G_X9_weightAt_14 _ _ _ _ _ _ = _
    rw [S_X9_weightAt_14 L d q T]
    simp (disch := omega) only [e0, nI_ltI, nI_leI, nI_eq, nIl, nIL, nIe, nIz, ib_nIi, ib_L, ix_L, ck_pos, if_pos, if_neg, lt_def, ck_true, true_and, and_true, true_or, or_true, ix_nI, nI_1, nIa, nIb, nI_add, cI_some, cR_some, cL_some, cV_some, if_true, if_false, Bool.false_eq_true, ne_eq, not_true_eq_false, not_false_eq_true]
theorem c_weightAt0 {h : MH} (L : lay h) (d : Nat) {q : Nat} (T : tAt q) {n : Nat} {W : Nat → Nat} {P : Nat → Nat} {SN : Nat → Nat} (t : twn h q n W P SN) {v : Int32} (hC : ¬ ib v 9) : F_X9_weightAt (d + 1) q v h = some (.int 0, h) := by
  rw [S_X9_weightAt L d q _ T]
  by_cases h0 : v < 0
  · rw [if_pos h0]
  · rw [if_neg h0]
    obtain ⟨j, hj, rfl⟩ := nI_of h0
    rw [ib_nIi hj] at hC
    simp (disch := omega) only [nI_ltI, nI_leI, nI_eq, nIl, nIL, nIe, nIz, ib_nIi, ib_L, ix_L, ck_pos, if_pos, if_neg, lt_def, ck_true, true_and, and_true, true_or, or_true, ix_nI, nI_1, nIa, nIb, nI_add, cI_some, cR_some, cL_some, cV_some, if_true, if_false, Bool.false_eq_true, ne_eq, not_true_eq_false, not_false_eq_true]
theorem c_tipSwapped {h : MH} (L : lay h) (d : Nat) {q : Nat} (T : tAt q) {n : Nat} {W : Nat → Nat} {P : Nat → Nat} {SN : Nat → Nat} (t : twn h q n W P SN) {a b : Nat} (ha : a < n) (hb : b < n) : F_X9_tipSwapped (d + 2) q (nI a) (nI b) h = some (.int (zI (tipZ n W P SN + ((W a : Int) - W b) * ((P b : Int) - P a))), h) := by
  have hn := t.1
  rw [S_X9_tipSwapped L (d + 1) q _ _ T, c_tipNow L d T t]
  obtain ⟨hn, e0, hW, hP, hS⟩ := t
  simp (disch := omega) only [nI_ltI, nI_leI, nI_eq, nIl, nIL, nIe, nIz, ib_nIi, ib_L, ix_L, ck_pos, if_pos, if_neg, lt_def, ck_true, true_and, and_true, true_or, or_true, ix_nI, nI_1, nIa, nIb, nI_add, cI_some, cR_some, cL_some, cV_some, if_true, if_false, Bool.false_eq_true, ne_eq, not_true_eq_false, not_false_eq_true, hW, hP]
  simp only [nI_zI, lit_zI, zI_add, zI_mul, zI_sub, zI_neg, if_true, if_false, Bool.false_eq_true]
theorem c_standing {h : MH} (L : lay h) (d : Nat) {q : Nat} (T : tAt q) {n : Nat} {W : Nat → Nat} {P : Nat → Nat} {SN : Nat → Nat} (t : twn h q n W P SN) : F_X9_standing (d + 1) q h = some (.int (nI (sumN (fun p => P p * 9 ^ p) n)), h) := by
  obtain ⟨hn, e0, hW, hP, hS⟩ := t
  rw [S_X9_standing L d q T]
  refine (loop_all (n := n) (F := fun i => G_X9_standing_4 d q (nI (sumN (fun p => P p * 9 ^ p) i)) (nI i) h) (fun i hi => ?_)).trans ?_
  · show G_X9_standing_4 _ _ _ _ _ = _
    rw [S_X9_standing_4 L d q T, L.2.2.2.2.1]
    simp (disch := omega) only [e0, hP, nI_ltI, nI_leI, nI_eq, nIl, nIL, nIe, nIz, ib_nIi, ib_L, ix_L, ck_pos, if_pos, if_neg, lt_def, ck_true, true_and, and_true, true_or, or_true, ix_nI, nI_1, nIa, nIb, nI_add, cI_some, cR_some, cL_some, cV_some, if_true, if_false, Bool.false_eq_true, ne_eq, not_true_eq_false, not_false_eq_true, mpw_9, pk_mul, sumN_s i]
  · show G_X9_standing_4 _ _ _ _ _ = _
    rw [S_X9_standing_4 L d q T]
    simp (disch := omega) only [e0, nI_ltI, nI_leI, nI_eq, nIl, nIL, nIe, nIz, ib_nIi, ib_L, ix_L, ck_pos, if_pos, if_neg, lt_def, ck_true, true_and, and_true, true_or, or_true, ix_nI, nI_1, nIa, nIb, nI_add, cI_some, cR_some, cL_some, cV_some, if_true, if_false, Bool.false_eq_true, ne_eq, not_true_eq_false, not_false_eq_true]
end
/-! the model's -/
theorem m_size {h : MH} (L : lay h) (d : Nat) {a : Int} (ha : -2147483648 < a ∧ a < 2147483648) : F_X11_size (d + 1) (zI a) h = some (.int (zI (a.natAbs : Int)), h) := by
  rw [S_X11_size L d, ← zI_abs ha]
  unfold jabs
  split <;> rfl
theorem m_sizeJ {h : MH} (L : lay h) (d : Nat) (v : Int32) : F_X11_size (d + 1) v h = some (.int (jabs v), h) := by
  rw [S_X11_size L d]
  unfold jabs
  split <;> rfl
section
theorem m_isPerson {h : MH} (L : lay h) (d : Nat) {n : Nat} {W : Nat → Nat} {P : Nat → Nat} {SN : Nat → Nat} (t : mdl h n W P SN) (p : Int32) : F_X11_isPerson (d + 2) p h = some (.int (bI (ib p n)), h) := by
  rw [S_X11_isPerson L (d + 1), m_isIn L, cI_some, ck_pos bI_rt, t.2.1, bI_iff (ib_iff (by have := t.1; omega))]
theorem m_peopleIn {h : MH} (L : lay h) (d : Nat) {n : Nat} {W : Nat → Nat} {P : Nat → Nat} {SN : Nat → Nat} (t : mdl h n W P SN) {C : Nat} (hC : C < 9) : F_X11_peopleIn (d + 1) (nI C) h = some (.int (nI (setN (fun p => P p == C) n)), h) := by
  obtain ⟨hn, e0, hW, hP, hS⟩ := t
  rw [S_X11_peopleIn L d]
  refine (loop_all (n := n) (F := fun i => G_X11_peopleIn_4 d (nI C) (nI (setN (fun p => P p == C) i)) (nI i) h) (fun i hi => ?_)).trans ?_
  · show G_X11_peopleIn_4 _ _ _ _ _ = _
    have hp := (hP i hi).2
    have hs := setN_lt (fun p => P p == C) i
    have h4 : 2 ^ i ≤ 2 ^ 4 := Nat.pow_le_pow_right (by decide) (by omega)
    rw [S_X11_peopleIn_4 L d, ← setN_or]
    by_cases hb : P i = C
    · simp (disch := omega) only [e0, hP, nI_ltI, nI_leI, nI_eq, nIl, nIL, nIe, nIz, ib_nIi, ib_L, ix_L, ck_pos, if_pos, if_neg, lt_def, ck_true, true_and, and_true, true_or, or_true, ix_nI, nI_1, nIa, nIb, nI_add, cI_some, cR_some, cL_some, cV_some, if_true, if_false, Bool.false_eq_true, ne_eq, not_true_eq_false, not_false_eq_true, hb, beq_self_eq_true, if_true, one_shl, or_nI, S_X11_peopleIn_24 L]
    · simp (disch := omega) only [e0, hP, nI_ltI, nI_leI, nI_eq, nIl, nIL, nIe, nIz, ib_nIi, ib_L, ix_L, ck_pos, if_pos, if_neg, lt_def, ck_true, true_and, and_true, true_or, or_true, ix_nI, nI_1, nIa, nIb, nI_add, cI_some, cR_some, cL_some, cV_some, if_true, if_false, Bool.false_eq_true, ne_eq, not_true_eq_false, not_false_eq_true, beq_false_of_ne hb, Bool.false_eq_true, if_false, S_X11_peopleIn_24 L, Nat.or_zero, Int32.or_zero]
  · show G_X11_peopleIn_4 _ _ _ _ _ = _
    rw [S_X11_peopleIn_4 L d]
    simp (disch := omega) only [e0, nI_ltI, nI_leI, nI_eq, nIl, nIL, nIe, nIz, ib_nIi, ib_L, ix_L, ck_pos, if_pos, if_neg, lt_def, ck_true, true_and, and_true, true_or, or_true, ix_nI, nI_1, nIa, nIb, nI_add, cI_some, cR_some, cL_some, cV_some, if_true, if_false, Bool.false_eq_true, ne_eq, not_true_eq_false, not_false_eq_true]
theorem m_weightOf {h : MH} (L : lay h) (d : Nat) {n : Nat} {W : Nat → Nat} {P : Nat → Nat} {SN : Nat → Nat} (t : mdl h n W P SN) {S : Nat} (hS : S < 2 ^ 31) : F_X11_weightOf (d + 2) (nI S) h = some (.int (nI (sumN (fun p => if S.testBit p then W p else 0) n)), h) := by
  obtain ⟨hn, e0, hW, hP, hS'⟩ := t
  rw [S_X11_weightOf L (d + 1)]
  refine (loop_all (n := n) (F := fun i => G_X11_weightOf_4 (d + 1) (nI S) (nI (sumN (fun p => if S.testBit p then W p else 0) i)) (nI i) h) (fun i hi => ?_)).trans ?_
  · show G_X11_weightOf_4 _ _ _ _ _ = _
    rw [S_X11_weightOf_4 L (d + 1), m_has' L d hS (by omega)]
    by_cases hb : S.testBit i
    · simp (disch := omega) only [e0, hW, nI_ltI, nI_leI, nI_eq, nIl, nIL, nIe, nIz, ib_nIi, ib_L, ix_L, ck_pos, if_pos, if_neg, lt_def, ck_true, true_and, and_true, true_or, or_true, ix_nI, nI_1, nIa, nIb, nI_add, cI_some, cR_some, cL_some, cV_some, if_true, if_false, Bool.false_eq_true, ne_eq, not_true_eq_false, not_false_eq_true, hb, if_true, show ¬ (1 : Int32) = 0 by decide, S_X11_weightOf_23 L, sumN_s i]
    · simp (disch := omega) only [e0, hW, nI_ltI, nI_leI, nI_eq, nIl, nIL, nIe, nIz, ib_nIi, ib_L, ix_L, ck_pos, if_pos, if_neg, lt_def, ck_true, true_and, and_true, true_or, or_true, ix_nI, nI_1, nIa, nIb, nI_add, cI_some, cR_some, cL_some, cV_some, if_true, if_false, Bool.false_eq_true, ne_eq, not_true_eq_false, not_false_eq_true, hb, if_false, S_X11_weightOf_23 L, sumN_s i, Bool.false_eq_true, Nat.add_zero]
  · show G_X11_weightOf_4 _ _ _ _ _ = _
    rw [S_X11_weightOf_4 L (d + 1)]
    simp (disch := omega) only [e0, nI_ltI, nI_leI, nI_eq, nIl, nIL, nIe, nIz, ib_nIi, ib_L, ix_L, ck_pos, if_pos, if_neg, lt_def, ck_true, true_and, and_true, true_or, or_true, ix_nI, nI_1, nIa, nIb, nI_add, cI_some, cR_some, cL_some, cV_some, if_true, if_false, Bool.false_eq_true, ne_eq, not_true_eq_false, not_false_eq_true]
theorem m_loadOf {h : MH} (L : lay h) (d : Nat) {n : Nat} {W : Nat → Nat} {P : Nat → Nat} {SN : Nat → Nat} (t : mdl h n W P SN) {C : Nat} (hC : C < 9) : F_X11_loadOf (d + 3) (nI C) h = some (.int (nI (SN C + sumN (fun p => if P p = C then W p else 0) n)), h) := by
  have hn := t.1
  have hs := setN_lt (fun p => P p == C) n
  have h4 : 2 ^ n ≤ 2 ^ 4 := Nat.pow_le_pow_right (by decide) (by omega)
  rw [S_X11_loadOf L (d + 2), m_peopleIn L (d + 1) t hC, cI_some, m_weightOf L d t (by omega), cI_some]
  obtain ⟨hn, e0, hW, hP, hS⟩ := t
  simp (disch := omega) only [nI_ltI, nI_leI, nI_eq, nIl, nIL, nIe, nIz, ib_nIi, ib_L, ix_L, ck_pos, if_pos, if_neg, lt_def, ck_true, true_and, and_true, true_or, or_true, ix_nI, nI_1, nIa, nIb, nI_add, cI_some, cR_some, cL_some, cV_some, if_true, if_false, Bool.false_eq_true, ne_eq, not_true_eq_false, not_false_eq_true, hS]
  congr 4
  refine congrArg _ (sumN_congr fun i hi => ?_)
  rw [setN_bit]
  simp [hi]
theorem m_allSnow {h : MH} (L : lay h) (d : Nat) {n : Nat} {W : Nat → Nat} {P : Nat → Nat} {SN : Nat → Nat} (t : mdl h n W P SN) : F_X11_allSnow (d + 1) h = some (.int (nI (sumN SN 9)), h) := by
  obtain ⟨hn, e0, hW, hP, hS⟩ := t
  rw [S_X11_allSnow L d]
  refine (loop_all (n := 9) (F := fun i => G_X11_allSnow_4 d (nI (sumN SN i)) (nI i) h) (fun i hi => ?_)).trans ?_
  · show G_X11_allSnow_4 _ _ _ _ = _
    rw [S_X11_allSnow_4 L d]
    simp (disch := omega) only [hS, nI_ltI, nI_leI, nI_eq, nIl, nIL, nIe, nIz, ib_nIi, ib_L, ix_L, ck_pos, if_pos, if_neg, lt_def, ck_true, true_and, and_true, true_or, or_true, ix_nI, nI_1, nIa, nIb, nI_add, cI_some, cR_some, cL_some, cV_some, if_true, if_false, Bool.false_eq_true, ne_eq, not_true_eq_false, not_false_eq_true, sumN_s i]
  · show G_X11_allSnow_4 _ _ _ _ = _
    rw [S_X11_allSnow_4 L d]
    simp (disch := omega) only [nI_ltI, nI_leI, nI_eq, nIl, nIL, nIe, nIz, ib_nIi, ib_L, ix_L, ck_pos, if_pos, if_neg, lt_def, ck_true, true_and, and_true, true_or, or_true, ix_nI, nI_1, nIa, nIb, nI_add, cI_some, cR_some, cL_some, cV_some, if_true, if_false, Bool.false_eq_true, ne_eq, not_true_eq_false, not_false_eq_true]
theorem m_everyone {h : MH} (L : lay h) (d : Nat) {n : Nat} {W : Nat → Nat} {P : Nat → Nat} {SN : Nat → Nat} (t : mdl h n W P SN) : F_X11_everyone (d + 1) h = some (.int (nI (2 ^ n - 1)), h) := by
  have h4 : 0 < 2 ^ n := Nat.two_pow_pos n
  rw [S_X11_everyone L d, t.2.1, one_shl (by have := t.1; omega), show (1 : Int32) = nI 1 from rfl, pk_sub h4]
def tipS (n : Nat) (W P SN : Nat → Nat) (S : Nat) : Int := sumZ (fun c => (SN c : Int) * ((c : Int) - 4)) 9 + sumZ (fun p => if S.testBit p then (W p : Int) * ((P p : Int) - 4) else 0) n
theorem m_tipOf {h : MH} (L : lay h) (d : Nat) {n : Nat} {W : Nat → Nat} {P : Nat → Nat} {SN : Nat → Nat} (t : mdl h n W P SN) {S : Nat} (hS : S < 2 ^ 31) : F_X11_tipOf (d + 2) (nI S) h = some (.int (zI (tipS n W P SN S)), h) := by
  obtain ⟨hn, e0, hW, hP, hS'⟩ := t
  rw [S_X11_tipOf L (d + 1)]
  refine (loop_all (n := 9) (F := fun i => G_X11_tipOf_4 (d + 1) (nI S) (zI (sumZ (fun c => (SN c : Int) * ((c : Int) - 4)) i)) (nI i) h) (fun i hi => ?_)).trans ?_
  · show G_X11_tipOf_4 _ _ _ _ _ = _
    rw [S_X11_tipOf_4 L (d + 1)]
    simp (disch := omega) only [hS', nI_ltI, nI_leI, nI_eq, nIl, nIL, nIe, nIz, ib_nIi, ib_L, ix_L, ck_pos, if_pos, if_neg, lt_def, ck_true, true_and, and_true, true_or, or_true, ix_nI, nI_1, nIa, nIb, nI_add, cI_some, cR_some, cL_some, cV_some, if_true, if_false, Bool.false_eq_true, ne_eq, not_true_eq_false, not_false_eq_true]
    simp only [nI_zI, lit_zI, zI_add, zI_mul, zI_sub, zI_neg, if_true, if_false, Bool.false_eq_true, sumZ_s i]
    rfl
  · show G_X11_tipOf_4 _ _ _ _ _ = _
    rw [S_X11_tipOf_4 L (d + 1)]
    simp (disch := omega) only [nI_ltI, nI_leI, nI_eq, nIl, nIL, nIe, nIz, ib_nIi, ib_L, ix_L, ck_pos, if_pos, if_neg, lt_def, ck_true, true_and, and_true, true_or, or_true, ix_nI, nI_1, nIa, nIb, nI_add, cI_some, cR_some, cL_some, cV_some, if_true, if_false, Bool.false_eq_true, ne_eq, not_true_eq_false, not_false_eq_true]
    refine (congrArg (fun z => G_X11_tipOf_24 (d + 1) (nI S) (zI z) (nI 0) h) (Int.add_zero _).symm).trans ?_
    refine (loop_all (n := n) (F := fun i => G_X11_tipOf_24 (d + 1) (nI S) (zI (sumZ (fun c => (SN c : Int) * ((c : Int) - 4)) 9 + sumZ (fun p => if S.testBit p then (W p : Int) * ((P p : Int) - 4) else 0) i)) (nI i) h) (fun i hi => ?_)).trans ?_
    · show G_X11_tipOf_24 _ _ _ _ _ = _
      rw [S_X11_tipOf_24 L (d + 1), m_has' L d hS (by omega)]
      by_cases hb : S.testBit i
      · simp (disch := omega) only [e0, hW, hP, nI_ltI, nI_leI, nI_eq, nIl, nIL, nIe, nIz, ib_nIi, ib_L, ix_L, ck_pos, if_pos, if_neg, lt_def, ck_true, true_and, and_true, true_or, or_true, ix_nI, nI_1, nIa, nIb, nI_add, cI_some, cR_some, cL_some, cV_some, if_true, if_false, Bool.false_eq_true, ne_eq, not_true_eq_false, not_false_eq_true, hb, if_true, show ¬ (1 : Int32) = 0 by decide, S_X11_tipOf_52 L]
        simp only [nI_zI, lit_zI, zI_add, zI_mul, zI_sub, zI_neg, if_true, if_false, Bool.false_eq_true, sumZ_s i, hb, if_true, Int.add_assoc]
        rfl
      · simp (disch := omega) only [e0, nI_ltI, nI_leI, nI_eq, nIl, nIL, nIe, nIz, ib_nIi, ib_L, ix_L, ck_pos, if_pos, if_neg, lt_def, ck_true, true_and, and_true, true_or, or_true, ix_nI, nI_1, nIa, nIb, nI_add, cI_some, cR_some, cL_some, cV_some, if_true, if_false, Bool.false_eq_true, ne_eq, not_true_eq_false, not_false_eq_true, hb, if_false, S_X11_tipOf_52 L, Bool.false_eq_true]
        simp only [nI_zI, lit_zI, zI_add, zI_mul, zI_sub, zI_neg, if_true, if_false, Bool.false_eq_true, sumZ_s i, hb, Int.add_assoc]
        rfl
    · show G_X11_tipOf_24 _ _ _ _ _ = _
      rw [S_X11_tipOf_24 L (d + 1)]
      simp (disch := omega) only [e0, nI_ltI, nI_leI, nI_eq, nIl, nIL, nIe, nIz, ib_nIi, ib_L, ix_L, ck_pos, if_pos, if_neg, lt_def, ck_true, true_and, and_true, true_or, or_true, ix_nI, nI_1, nIa, nIb, nI_add, cI_some, cR_some, cL_some, cV_some, if_true, if_false, Bool.false_eq_true, ne_eq, not_true_eq_false, not_false_eq_true]
      rfl
theorem m_tipNow {h : MH} (L : lay h) (d : Nat) {n : Nat} {W : Nat → Nat} {P : Nat → Nat} {SN : Nat → Nat} (t : mdl h n W P SN) : F_X11_tipNow (d + 3) h = some (.int (zI (tipZ n W P SN)), h) := by
  have h4 : 2 ^ n ≤ 2 ^ 4 := Nat.pow_le_pow_right (by decide) t.1
  have hn := t.1
  rw [S_X11_tipNow L (d + 2), m_everyone L (d + 1) t, cI_some, m_tipOf L d t (by omega), cI_some]
  congr 4
  unfold tipS tipZ
  rw [Int.add_comm]
  congr 1
  refine sumZ_congr fun i hi => ?_
  rw [bit_pow (by omega)]
  simp [hi]
end
end TWN
