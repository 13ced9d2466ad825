--deps:19.lay 21.facts 22.00.names 22.01.eq 22.02.eq 22.03.eq 22.04.eq 22.05.eq 22.06.eq 22.07.eq 22.08.eq 22.09.eq 22.10.eq 22.11.eq 22.12.eq 22.13.eq 22.14.eq 22.15.eq 22.16.eq 22.17.eq 22.18.eq 22.19.eq 22.20.eq 22.21.eq 22.22.eq 22.23.eq 23.num 24.town 25.evc
/-! A LAW'S VALUE: the reference's code, as steps of a pure machine -/
set_option linter.unusedSectionVars false
/-- i, values, truths, their rows -/
abbrev MS : Type := Nat × Nat × Nat × (Nat → Int64) × (Nat → Int32)
def mCl (v : Int64) : Int64 := if lg_cmp v 1000000 ≤ 0 then (if lg_cmp v (-1000000) < 0 then -1000000 else v) else 1000000
def mOneF (ld : Int64 → Int64) (op : Int32) (v : Int64) : Int64 := if op = 5 then -v else if op = 4 then (if lg_cmp v 0 ≤ 0 then (if lg_cmp v 0 < 0 then -1 else 0) else 1) else ld v
def mTwoF (op : Int32) (x y : Int64) : Int64 := if op = 6 then mCl (x + y) else if op = 7 then mCl (x - y) else if op = 8 then mCl (x * y) else if lg_cmp y 0 = 0 then 0 else mCl (x / y)
def mAskF (op : Int32) (x y : Int64) : Int32 := if op = 10 then (if lg_cmp x y < 0 then 1 else 0) else if op = 11 then (if lg_cmp x y ≤ 0 then 1 else 0) else if op = 12 then (if lg_cmp x y ≤ 0 then 0 else 1) else if op = 13 then (if lg_cmp x y < 0 then 0 else 1) else if op = 14 then (if lg_cmp x y = 0 then 1 else 0) else (if lg_cmp x y = 0 then 0 else 1)
def mJoinF (op a b : Int32) : Int32 := if op = 21 then (if a = 0 then 0 else if b = 0 then 0 else 1) else (if a = 0 then (if b = 0 then 0 else 1) else 1)
noncomputable def ldL (n : Nat) (W P SN : Nat → Nat) (v : Int64) : Int64 := if lg_cmp v 0 < 0 then 0 else if lg_cmp v 9 < 0 then (ldI n W P SN v.toInt32).toInt64 else 0
/-- one operation -/
noncomputable def mvs (t : Nat → Int32) (cb : Nat) (nm : Nat → Int32) (ld : Int64 → Int64) (s : MS) : Option MS :=
  @ite _ (t (cb + 2 * s.1) = 0) (mcD _) (@ite _ (s.2.1 < 330) (mcD _) (some (s.1 + 1, s.2.1 + 1, s.2.2.1, va_up s.2.2.2.1 s.2.1 (t (cb + 2 * s.1 + 1)).toInt64, s.2.2.2.2)) none)
  (@ite _ (t (cb + 2 * s.1) = 1) (mcD _) (@ite _ (s.2.1 < 330 ∧ ib (t (cb + 2 * s.1 + 1)) 7) (mcD _) (some (s.1 + 1, s.2.1 + 1, s.2.2.1, va_up s.2.2.2.1 s.2.1 (nm (ix (t (cb + 2 * s.1 + 1)))).toInt64, s.2.2.2.2)) none)
  (@ite _ (t (cb + 2 * s.1) = 3) (mcD _) (@ite _ (2 ≤ s.2.1 ∧ s.2.1 ≤ 330 ∧ 1 ≤ s.2.2.1 ∧ s.2.2.1 ≤ 330) (mcD _) (some (s.1 + 1, s.2.1 - 1, s.2.2.1 - 1, if s.2.2.2.2 (s.2.2.1 - 1) = 0 then va_up s.2.2.2.1 (s.2.1 - 2) (s.2.2.2.1 (s.2.1 - 1)) else s.2.2.2.1, s.2.2.2.2)) none)
  (@ite _ (t (cb + 2 * s.1) = 2 ∨ t (cb + 2 * s.1) = 4 ∨ t (cb + 2 * s.1) = 5) (mcD _) (@ite _ (1 ≤ s.2.1 ∧ s.2.1 ≤ 330) (mcD _) (some (s.1 + 1, s.2.1, s.2.2.1, va_up s.2.2.2.1 (s.2.1 - 1) (mOneF ld (t (cb + 2 * s.1)) (s.2.2.2.1 (s.2.1 - 1))), s.2.2.2.2)) none)
  (@ite _ (5 < t (cb + 2 * s.1) ∧ t (cb + 2 * s.1) < 10) (mcD _) (@ite _ (2 ≤ s.2.1 ∧ s.2.1 ≤ 330) (mcD _) (some (s.1 + 1, s.2.1 - 1, s.2.2.1, va_up s.2.2.2.1 (s.2.1 - 2) (mTwoF (t (cb + 2 * s.1)) (s.2.2.2.1 (s.2.1 - 2)) (s.2.2.2.1 (s.2.1 - 1))), s.2.2.2.2)) none)
  (@ite _ (10 ≤ t (cb + 2 * s.1) ∧ t (cb + 2 * s.1) < 20) (mcD _) (@ite _ (2 ≤ s.2.1 ∧ s.2.1 ≤ 330 ∧ s.2.2.1 < 330) (mcD _) (some (s.1 + 1, s.2.1 - 2, s.2.2.1 + 1, s.2.2.2.1, va_up s.2.2.2.2 s.2.2.1 (mAskF (t (cb + 2 * s.1)) (s.2.2.2.1 (s.2.1 - 2)) (s.2.2.2.1 (s.2.1 - 1))))) none)
  (@ite _ (t (cb + 2 * s.1) = 20) (mcD _) (@ite _ (1 ≤ s.2.2.1 ∧ s.2.2.1 ≤ 330) (mcD _) (some (s.1 + 1, s.2.1, s.2.2.1, s.2.2.2.1, va_up s.2.2.2.2 (s.2.2.1 - 1) (if s.2.2.2.2 (s.2.2.1 - 1) = 0 then 1 else 0))) none)
  (@ite _ (20 < t (cb + 2 * s.1)) (mcD _) (@ite _ (2 ≤ s.2.2.1 ∧ s.2.2.1 ≤ 330) (mcD _) (some (s.1 + 1, s.2.1, s.2.2.1 - 1, s.2.2.2.1, va_up s.2.2.2.2 (s.2.2.1 - 2) (mJoinF (t (cb + 2 * s.1)) (s.2.2.2.2 (s.2.2.1 - 2)) (s.2.2.2.2 (s.2.2.1 - 1))))) none) none)))))))
noncomputable def mvr (t : Nat → Int32) (cb : Nat) (nm : Nat → Int32) (ld : Int64 → Int64) : Nat → MS → Option MS
  | 0, s => some s
  | k + 1, s => (mvs t cb nm ld s).bind (mvr t cb nm ld k)
def mvh (h : MH) (vals : Nat → Int64) (tru : Nat → Int32) : MH := rL (rI h 75 tru) 74 vals
theorem rL_rL (h : MH) (a : Nat) (f g : Nat → Int64) : rL (rL h a f) a g = rL h a g := by
  unfold rL
  congr 3
  funext b
  by_cases e : b = a
  · rw [if_pos e, if_pos e]
  · rw [if_neg e, if_neg e]
    exact if_neg e
theorem rL_rI (h : MH) (a b : Nat) (f : Nat → Int64) (g : Nat → Int32) : rI (rL h a f) b g = rL (rI h b g) a f := rfl
theorem sL_mvh (h : MH) (vals : Nat → Int64) (tru : Nat → Int32) (k : Nat) (v : Int64) : sL (mvh h vals tru) 74 k v = mvh h (va_up vals k v) tru := by
  unfold sL mvh
  rw [rL_rL]
  congr 2
theorem sI_mvh (h : MH) (vals : Nat → Int64) (tru : Nat → Int32) (k : Nat) (v : Int32) : sI (mvh h vals tru) 75 k v = mvh h vals (va_up tru k v) := by
  unfold sI mvh
  rw [rL_rI, rI_rI, gI_rL, gI_rI, if_pos rfl]
theorem lay_mvh {h : MH} (L : lay h) (vals : Nat → Int64) (tru : Nat → Int32) : lay (mvh h vals tru) := by
  have : lay (rI h 75 tru) := lay_rI L (by decide)
  exact this
theorem gI_mvh {h : MH} {vals : Nat → Int64} {tru : Nat → Int32} {a : Nat} (ha : ¬ a = 75) : gI (mvh h vals tru) a = gI h a := by
  unfold mvh
  rw [gI_rL, gI_rI, if_neg ha]
theorem gI_mvs {h : MH} {vals : Nat → Int64} {tru : Nat → Int32} : gI (mvh h vals tru) 75 = tru := by
  unfold mvh
  rw [gI_rL, gI_rI, if_pos rfl]
theorem gL_mvh {h : MH} {vals : Nat → Int64} {tru : Nat → Int32} : gL (mvh h vals tru) 74 = vals := by
  unfold mvh
  rw [gL_rL, if_pos rfl]
theorem mdl_mvh {h : MH} {n : Nat} {W P SN : Nat → Nat} (t : mdl h n W P SN) (vals : Nat → Int64) (tru : Nat → Int32) : mdl (mvh h vals tru) n W P SN := by
  unfold mdl
  rw [gI_mvh (by decide)]
  exact t
theorem mvh_self (h : MH) : mvh h (gL h 74) (gI h 75) = h := by
  unfold mvh
  rw [rI_self]
  unfold rL gL
  have : (fun b => if b = 74 then h.2.2.1 74 else h.2.2.1 b) = h.2.2.1 := by
    funext b
    by_cases e : b = 74
    · rw [if_pos e, e]
    · rw [if_neg e]
  rw [this]
section EVM
theorem m_clip {h : MH} (L : lay h) (d : Nat) (v : Int64) : F_X11_clip (d + 1) v h = some (.long (mCl v), h) := by
  rw [S_X11_clip L d]
  unfold mCl
  simp only [apply_ite (fun x : Int64 => some (Value.long x, h))]
theorem m_two {h : MH} (L : lay h) (d : Nat) (op : Int32) (x y : Int64) : F_X11_two (d + 2) op x y h = some (.long (mTwoF op x y), h) := by
  rw [S_X11_two L (d + 1)]
  simp only [m_clip L d, cL_some]
  unfold mTwoF
  by_cases hy : y = 0
  · simp only [(lg_cmp_eq y 0).mpr hy, if_true, apply_ite (fun x : Int64 => some (Value.long x, h))]
  · have h1 : ¬ lg_cmp y 0 = 0 := fun e => hy ((lg_cmp_eq y 0).mp e)
    simp only [h1, hy, if_false, not_false_eq_true, ck_true, apply_ite (fun x : Int64 => some (Value.long x, h))]
theorem m_isAsked {h : MH} (L : lay h) (d : Nat) (op : Int32) (x y : Int64) : F_X11_isAsked (d + 1) op x y h = some (.int (mAskF op x y), h) := by
  rw [S_X11_isAsked L d]
  unfold mAskF
  simp only [apply_ite (fun x : Int32 => some (Value.int x, h))]
theorem m_joined {h : MH} (L : lay h) (d : Nat) (op a b : Int32) : F_X11_joined (d + 1) op a b h = some (.int (mJoinF op a b), h) := by
  rw [S_X11_joined L d]
  unfold mJoinF
  simp only [apply_ite (fun x : Int32 => some (Value.int x, h))]
theorem mAskF_b {h : MH} (L : lay h) (op : Int32) (x y : Int64) : mAskF op x y = 0 ∨ mAskF op x y = 1 := by
  unfold mAskF
  repeat' split
  all_goals first | exact Or.inl rfl | exact Or.inr rfl
theorem mJoinF_b {h : MH} (L : lay h) (op a b : Int32) : mJoinF op a b = 0 ∨ mJoinF op a b = 1 := by
  unfold mJoinF
  repeat' split
  all_goals first | exact Or.inl rfl | exact Or.inr rfl
theorem m_placeLoad {h : MH} (L : lay h) (d : Nat) {n : Nat} {W : Nat → Nat} {P : Nat → Nat} {SN : Nat → Nat} (t : mdl h n W P SN) (v : Int64) : F_X11_placeLoad (d + 4) v h = some (.long (ldL n W P SN v), h) := by
  rw [S_X11_placeLoad L (d + 3)]
  unfold ldL
  by_cases h0 : lg_cmp v 0 < 0
  · rw [if_pos h0, if_pos h0]
  rw [if_neg h0, if_neg h0]
  by_cases h9 : lg_cmp v 9 < 0
  · rw [if_pos h9, if_pos h9]
    have a0 : ¬ v < 0 := fun e => h0 ((lg_cmp_lt v 0).mpr e)
    have a9 := (lg_cmp_lt v 9).mp h9
    obtain ⟨k, hk, rfl⟩ := pk_lOf a0
    have : k < 9 := (pk_lLT hk (by decide)).mp a9
    have e : (lN k).toInt32 = nI k := by
      apply Int32.toInt_inj.mp
      rw [Int64.toInt_toInt32, lN_toInt (by omega), nI_toInt (by omega)]
      have : ∀ k, k < 9 → (Int.bmod ((k : Nat) : Int) (2 ^ 32)) = (k : Int) := by decide +kernel
      exact this k (by omega)
    rw [e, m_loadOf L d t (by omega), cI_some]
    unfold ldI
    rw [if_pos (ib_nI (by omega) (by omega)), ix_nI (by omega)]
    rfl
  · rw [if_neg h9, if_neg h9]
theorem m_ofOne {h : MH} (L : lay h) (d : Nat) {n : Nat} {W : Nat → Nat} {P : Nat → Nat} {SN : Nat → Nat} (t : mdl h n W P SN) (op : Int32) (v : Int64) : F_X11_ofOne (d + 5) op v h = some (.long (mOneF (ldL n W P SN) op v), h) := by
  rw [S_X11_ofOne L (d + 4)]
  simp only [m_placeLoad L d t, cL_some]
  unfold mOneF
  simp only [apply_ite (fun x : Int64 => some (Value.long x, h))]
theorem le_c {h : MH} (L : lay h) {a b : Int32} (k : a ≤ b) (c : ¬ a = b) : a < b := Int32.lt_of_le_of_ne k c
/-- a step of the pure machine is a round of the loop -/
theorem m_step {h : MH} (L : lay h) (d : Nat) {n : Nat} {W : Nat → Nat} {P : Nat → Nat} {SN : Nat → Nat} (t : mdl h n W P SN) {s s' : MS} {cb x hi : Nat} (hx : x + 2 < 2724) (ex : gI h 70 (x + 2) = nI hi) (hhi : hi < 1000) (hcb : cb + 2 * hi + 1 < 2724) (hlt : s.1 < hi) (hs : mvs (gI h 70) cb (gI h 73) (ldL n W P SN) s = some s') (a1 a2 : Int32) (o8 o9 : Option Value) : ∃ o8' o9', G_X11_summedUp_27 (d + 5) a1 a2 (nI x) (nI cb) (nI s.2.1) (nI s.2.2.1) (nI s.1) o8 o9 (mvh h s.2.2.2.1 s.2.2.2.2) = G_X11_summedUp_27 (d + 5) a1 a2 (nI x) (nI cb) (nI s'.2.1) (nI s'.2.2.1) (nI s'.1) o8' o9' (mvh h s'.2.2.2.1 s'.2.2.2.2) := by
  obtain ⟨i, nv, tr, vals, tru⟩ := s
  have L' : ∀ v u, lay (mvh h v u) := fun v u => lay_mvh L v u
  have g70 : ∀ v u, gI (mvh h v u) 70 = gI h 70 := fun v u => gI_mvh (by decide)
  have g73 : ∀ v u, gI (mvh h v u) 73 = gI h 73 := fun v u => gI_mvh (by decide)
  have tt : ∀ v u, mdl (mvh h v u) n W P SN := fun v u => mdl_mvh t v u
  dsimp only at hlt ⊢
  unfold mvs at hs
  dsimp only at hs
  have hend : ∀ {o v : Int32} {i' nv' tr' : Nat} {vals' : Nat → Int64} {tru' : Nat → Int32}, s' = (i' + 1, nv', tr', vals', tru') → ∃ o8' o9', G_X11_summedUp_198 (d + 5) a1 a2 (nI x) (nI cb) (nI nv') (nI tr') (nI i') o v (mvh h vals' tru') = G_X11_summedUp_27 (d + 5) a1 a2 (nI x) (nI cb) (nI s'.2.1) (nI s'.2.2.1) (nI s'.1) o8' o9' (mvh h s'.2.2.2.1 s'.2.2.2.2) := by
    rintro o v i' nv' tr' vals' tru' rfl
    exact ⟨some (.int o), some (.int v), by rw [S_X11_summedUp_198 (L' vals' tru') (d + 5), nI_1]⟩
  rw [S_X11_summedUp_27 (L' vals tru) (d + 5)]
  have e2 : nI cb + 2 * nI i = nI (cb + 2 * i) := by rw [nIm, nI_add]
  rw [show nI x + 2 = nI (x + 2) from nI_add x 2, e2, ck_pos (ib_nI hx (by omega)), ix_nI (n := x + 2) (by omega), g70, ex, if_pos (nI_lt hlt (by omega)), show nI (cb + 2 * i) + 1 = nI (cb + 2 * i + 1) from nI_add _ 1, ck_pos (ib_nI (by omega) (by omega)), lt_def, ck_pos (ib_nI (by omega) (by omega)), lt_def, ix_nI (n := cb + 2 * i) (by omega), ix_nI (n := cb + 2 * i + 1) (by omega)]
  generalize ho : gI h 70 (cb + 2 * i) = o at hs ⊢
  by_cases c0 : o = 0
  · subst c0
    rw [if_pos rfl] at hs
    obtain ⟨h1, hs⟩ := ite_none hs
    cases hs
    simp (disch := omega) only [nI_ltI, nI_leI, nI_eq, nIl, nIL, nIe, nIz, ib_nIi, ib_L, ix_L, ck_pos, if_pos, if_neg, lt_def, ck_true, true_and, and_true, true_or, or_true, ix_nI, nI_1, nIa, nIb, nI_add, cI_some, cR_some, cL_some, cV_some, if_true, if_false, Bool.false_eq_true, ne_eq, not_true_eq_false, not_false_eq_true, show (0 : Int32) ≤ 1 by decide, S_X11_summedUp_71 (L' vals tru), sL_mvh]
    exact hend rfl
  rw [if_neg c0] at hs
  by_cases c1 : o = 1
  · subst c1
    rw [if_pos rfl] at hs
    obtain ⟨⟨h1, h7⟩, hs⟩ := ite_none hs
    obtain ⟨j, hj, ej⟩ := ib_at h7 (by omega)
    rw [ej, ix_nI (by omega)] at hs
    cases hs
    simp (disch := omega) only [ej, g73, nI_ltI, nI_leI, nI_eq, nIl, nIL, nIe, nIz, ib_nIi, ib_L, ix_L, ck_pos, if_pos, if_neg, lt_def, ck_true, true_and, and_true, true_or, or_true, ix_nI, nI_1, nIa, nIb, nI_add, cI_some, cR_some, cL_some, cV_some, if_true, if_false, Bool.false_eq_true, ne_eq, not_true_eq_false, not_false_eq_true, show (1 : Int32) ≤ 1 by decide, show ¬ (1 : Int32) = 0 by decide, S_X11_summedUp_71 (L' vals tru), sL_mvh]
    exact hend rfl
  rw [if_neg c1] at hs
  by_cases c3 : o = 3
  · subst c3
    rw [if_pos rfl] at hs
    obtain ⟨h1, hs⟩ := ite_none hs
    obtain ⟨nv, rfl⟩ : ∃ m, nv = m + 2 := ⟨nv - 2, by omega⟩
    obtain ⟨tr, rfl⟩ : ∃ m, tr = m + 1 := ⟨tr - 1, by omega⟩
    rw [show nI (nv + 2) + (-1) = nI (nv + 1) from pk_m1 (nv + 1), nI_pred, pk_m1]
    simp only [show nv + 2 - 1 = nv + 1 by omega, Nat.add_sub_cancel] at hs
    by_cases hz : tru tr = 0
    · rw [if_pos hz] at hs
      cases hs
      simp (disch := omega) only [hz, nI_ltI, nI_leI, nI_eq, nIl, nIL, nIe, nIz, ib_nIi, ib_L, ix_L, ck_pos, if_pos, if_neg, lt_def, ck_true, true_and, and_true, true_or, or_true, ix_nI, nI_1, nIa, nIb, nI_add, cI_some, cR_some, cL_some, cV_some, if_true, if_false, Bool.false_eq_true, ne_eq, not_true_eq_false, not_false_eq_true, show ¬ (3 : Int32) ≤ 1 by decide, gI_mvs, gL_mvh, sL_mvh]
      exact hend rfl
    · rw [if_neg hz] at hs
      cases hs
      simp (disch := omega) only [hz, nI_ltI, nI_leI, nI_eq, nIl, nIL, nIe, nIz, ib_nIi, ib_L, ix_L, ck_pos, if_pos, if_neg, lt_def, ck_true, true_and, and_true, true_or, or_true, ix_nI, nI_1, nIa, nIb, nI_add, cI_some, cR_some, cL_some, cV_some, if_true, if_false, Bool.false_eq_true, ne_eq, not_true_eq_false, not_false_eq_true, show ¬ (3 : Int32) ≤ 1 by decide, gI_mvs]
      exact hend rfl
  rw [if_neg c3] at hs
  by_cases c2 : o = 2 ∨ o = 4 ∨ o = 5
  · rw [if_pos c2] at hs
    obtain ⟨h1, hs⟩ := ite_none hs
    obtain ⟨nv, rfl⟩ : ∃ m, nv = m + 1 := ⟨nv - 1, by omega⟩
    rw [Nat.add_sub_cancel] at hs
    cases hs
    have q1 : ¬ o ≤ 1 := by rcases c2 with rfl | rfl | rfl <;> decide
    have q2 : o ≤ 5 := by rcases c2 with rfl | rfl | rfl <;> decide
    rw [if_neg q1, if_neg c3, if_pos q2, nI_pred]
    simp (disch := omega) only [nI_ltI, nI_leI, nI_eq, nIl, nIL, nIe, nIz, ib_nIi, ib_L, ix_L, ck_pos, if_pos, if_neg, lt_def, ck_true, true_and, and_true, true_or, or_true, ix_nI, nI_1, nIa, nIb, nI_add, cI_some, cR_some, cL_some, cV_some, if_true, if_false, Bool.false_eq_true, ne_eq, not_true_eq_false, not_false_eq_true, gL_mvh, m_ofOne (L' vals tru) d (tt vals tru), sL_mvh]
    exact hend rfl
  rw [if_neg c2] at hs
  by_cases c5 : 5 < o ∧ o < 10
  · rw [if_pos c5] at hs
    obtain ⟨h1, hs⟩ := ite_none hs
    obtain ⟨nv, rfl⟩ : ∃ m, nv = m + 2 := ⟨nv - 2, by omega⟩
    simp only [show nv + 2 - 1 = nv + 1 by omega, Nat.add_sub_cancel] at hs
    cases hs
    have q2 : ¬ o ≤ 5 := Int32.not_le.mpr c5.1
    have q1 : ¬ o ≤ 1 := fun e => q2 (Int32.le_trans e (by decide))
    rw [if_neg q1, if_neg c3, if_neg q2, if_pos c5.2, show nI (nv + 2) + (-1) = nI (nv + 1) from pk_m1 (nv + 1), nI_pred]
    simp (disch := omega) only [nI_ltI, nI_leI, nI_eq, nIl, nIL, nIe, nIz, ib_nIi, ib_L, ix_L, ck_pos, if_pos, if_neg, lt_def, ck_true, true_and, and_true, true_or, or_true, ix_nI, nI_1, nIa, nIb, nI_add, cI_some, cR_some, cL_some, cV_some, if_true, if_false, Bool.false_eq_true, ne_eq, not_true_eq_false, not_false_eq_true, gL_mvh, m_two (L' vals tru) (d + 3), sL_mvh]
    exact hend rfl
  rw [if_neg c5] at hs
  by_cases c10 : 10 ≤ o ∧ o < 20
  · rw [if_pos c10] at hs
    obtain ⟨h1, hs⟩ := ite_none hs
    obtain ⟨nv, rfl⟩ : ∃ m, nv = m + 2 := ⟨nv - 2, by omega⟩
    simp only [show nv + 2 - 1 = nv + 1 by omega, Nat.add_sub_cancel] at hs
    cases hs
    have q3 : ¬ o < 10 := Int32.not_lt.mpr c10.1
    have q2 : ¬ o ≤ 5 := fun e => q3 (Int32.lt_of_le_of_lt e (by decide))
    have q1 : ¬ o ≤ 1 := fun e => q2 (Int32.le_trans e (by decide))
    rw [if_neg q1, if_neg c3, if_neg q2, if_neg q3, if_pos c10.2, show nI (nv + 2) + (-2) = nI nv by
      have := nI_add nv 2
      rw [← this, Int32.add_assoc]
      have : nI 2 + (-2) = 0 := by decide
      rw [this, Int32.add_zero]]
    simp (disch := omega) only [nI_ltI, nI_leI, nI_eq, nIl, nIL, nIe, nIz, ib_nIi, ib_L, ix_L, ck_pos, if_pos, if_neg, lt_def, ck_true, true_and, and_true, true_or, or_true, ix_nI, nI_1, nIa, nIb, nI_add, cI_some, cR_some, cL_some, cV_some, if_true, if_false, Bool.false_eq_true, ne_eq, not_true_eq_false, not_false_eq_true, gL_mvh, m_isAsked (L' vals tru) (d + 4), sI_mvh, mAskF_b L]
    exact hend rfl
  rw [if_neg c10] at hs
  by_cases c20 : o = 20
  · subst c20
    rw [if_pos rfl] at hs
    obtain ⟨h1, hs⟩ := ite_none hs
    obtain ⟨tr, rfl⟩ : ∃ m, tr = m + 1 := ⟨tr - 1, by omega⟩
    rw [Nat.add_sub_cancel] at hs
    rw [if_neg (by decide), if_neg (by decide), if_neg (by decide), if_neg (by decide), if_neg (by decide), if_pos rfl, nI_pred]
    by_cases hz : tru tr = 0
    · rw [if_pos hz] at hs
      cases hs
      simp (disch := omega) only [hz, nI_ltI, nI_leI, nI_eq, nIl, nIL, nIe, nIz, ib_nIi, ib_L, ix_L, ck_pos, if_pos, if_neg, lt_def, ck_true, true_and, and_true, true_or, or_true, ix_nI, nI_1, nIa, nIb, nI_add, cI_some, cR_some, cL_some, cV_some, if_true, if_false, Bool.false_eq_true, ne_eq, not_true_eq_false, not_false_eq_true, gI_mvs, S_X11_summedUp_177 (L' vals tru), sI_mvh, show ((1 : Int32) = 0 ∨ (1 : Int32) = 1) by decide]
      exact hend rfl
    · rw [if_neg hz] at hs
      cases hs
      simp (disch := omega) only [hz, nI_ltI, nI_leI, nI_eq, nIl, nIL, nIe, nIz, ib_nIi, ib_L, ix_L, ck_pos, if_pos, if_neg, lt_def, ck_true, true_and, and_true, true_or, or_true, ix_nI, nI_1, nIa, nIb, nI_add, cI_some, cR_some, cL_some, cV_some, if_true, if_false, Bool.false_eq_true, ne_eq, not_true_eq_false, not_false_eq_true, gI_mvs, S_X11_summedUp_177 (L' vals tru), sI_mvh, show ((0 : Int32) = 0 ∨ (0 : Int32) = 1) by decide]
      exact hend rfl
  rw [if_neg c20] at hs
  obtain ⟨c21, hs⟩ := ite_none hs
  obtain ⟨h1, hs⟩ := ite_none hs
  obtain ⟨tr, rfl⟩ : ∃ m, tr = m + 2 := ⟨tr - 2, by omega⟩
  simp only [show tr + 2 - 1 = tr + 1 by omega, Nat.add_sub_cancel] at hs
  cases hs
  have q4 : ¬ o < 20 := fun e => Int32.lt_irrefl (Int32.lt_trans e c21)
  have q3 : ¬ o < 10 := fun e => q4 (Int32.lt_trans e (by decide))
  have q2 : ¬ o ≤ 5 := fun e => q3 (Int32.lt_of_le_of_lt e (by decide))
  have q1 : ¬ o ≤ 1 := fun e => q2 (Int32.le_trans e (by decide))
  rw [if_neg q1, if_neg c3, if_neg q2, if_neg q3, if_neg q4, if_neg c20, show nI (tr + 2) + (-1) = nI (tr + 1) from pk_m1 (tr + 1), nI_pred]
  simp (disch := omega) only [nI_ltI, nI_leI, nI_eq, nIl, nIL, nIe, nIz, ib_nIi, ib_L, ix_L, ck_pos, if_pos, if_neg, lt_def, ck_true, true_and, and_true, true_or, or_true, ix_nI, nI_1, nIa, nIb, nI_add, cI_some, cR_some, cL_some, cV_some, if_true, if_false, Bool.false_eq_true, ne_eq, not_true_eq_false, not_false_eq_true, gI_mvs, m_joined (L' vals tru) (d + 4), sI_mvh, mJoinF_b L]
  exact hend rfl
end EVM
