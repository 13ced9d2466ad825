--deps:19.lay 21.facts 22.00.names 22.01.eq 22.02.eq 22.03.eq 22.04.eq 22.05.eq 22.06.eq 22.07.eq 22.08.eq 22.09.eq 22.10.eq 22.11.eq 22.12.eq 22.13.eq 22.14.eq 22.15.eq 22.16.eq 22.17.eq 22.18.eq 22.19.eq 22.20.eq 22.21.eq 22.22.eq 22.23.eq 23.num 24.town 25.evc 26.evm 27.law 28.says 29.inv 30.api1 31.copy
/-! QUESTIONS of people, places and the book -/
set_option linter.unusedSectionVars false
/-- whom a line of the book names -/
def entW (v : Int32) : Int32 := v / 81 - v / 81 / 4 * 4
def cntE (e : Nat → Int32) (wr p : Nat) : Nat := sumN (fun k => if entW (e k) = nI p then 1 else 0) wr
theorem cntE_le (e : Nat → Int32) (wr p : Nat) : cntE e wr p ≤ 1 * wr := sumN_le (fun i _ => by split <;> omega)
theorem cnt_iff {a : Int32} {N : Nat} (hN : N < 2 ^ 30) : (0 ≤ a ∧ a ≤ nI N - 1) ↔ ib a N := ib_iff hN
section API
theorem c_entry {h : MH} (L : lay h) (d : Nat) {q : Nat} (T : tAt q) {wr : Nat} (ew : gI h q 8 = nI wr) (hw : wr ≤ 30) {k : Nat} (hk : k < wr) : F_X9_entry (d + 2) q (nI k) 1 h = some (.int (entW (gI h (q + 5) k)), h) := by
  rw [S_X9_entry L (d + 1) q _ _ T, c_within L, cI_some, ew, bI_pos ((ib_iff (by omega)).mpr (ib_nI hk (by omega))), if_neg i10, if_neg (by decide), if_pos rfl, ck_pos (ib_nI (by omega) (by omega)), ix_nI (by omega)]
  rfl
theorem c_times {h : MH} (L : lay h) (d : Nat) {q : Nat} (T : tAt q) {wr : Nat} (ew : gI h q 8 = nI wr) (hw : wr ≤ 30) (p : Nat) : F_X9_timesWritten (d + 3) q (nI p) h = some (.int (nI (cntE (gI h (q + 5)) wr p)), h) := by
  rw [S_X9_timesWritten L (d + 2) q _ T]
  refine (loop_all (n := wr) (F := fun i => G_X9_timesWritten_4 (d + 2) q (nI p) (nI (cntE (gI h (q + 5)) i p)) (nI i) h) (fun i hi => ?_)).trans ?_
  · show G_X9_timesWritten_4 _ _ _ _ _ _ = _
    rw [S_X9_timesWritten_4 L (d + 2) q T, ew, if_pos (nI_lt hi (by omega)), c_entry L d T ew hw hi, cI_some, S_X9_timesWritten_15 L (d + 2) q T, S_X9_timesWritten_15 L (d + 2) q T, nI_1, nI_1]
    unfold cntE
    rw [sumN_s]
    by_cases c : entW (gI h (q + 5) i) = nI p
    · rw [if_pos c, if_pos c]
    · rw [if_neg c, if_neg c]
      rfl
  · show G_X9_timesWritten_4 _ _ _ _ _ _ = _
    rw [S_X9_timesWritten_4 L (d + 2) q T, ew, if_neg (nI_nlt (Nat.le_refl _) (by omega))]
theorem c_times10 {h : MH} (L : lay h) (d : Nat) {wr : Nat} (ew : gI h 10 8 = nI wr) (hw : wr ≤ 30) (p : Nat) : F_X9_timesWritten (d + 3) 10 (nI p) h = some (.int (nI (cntE (gI h 15) wr p)), h) := c_times L d tAt10 ew hw p
theorem m_lines {h : MH} (L : lay h) (d : Nat) {wr : Nat} (ew : gI h 68 8 = nI wr) (hw : wr ≤ 30) {p : Nat} (hp : p < 2 ^ 31) : F_X11_linesOf (d + 2) (nI p) h = some (.int (nI (cntE (fun k => gI h 68 (1468 + k)) wr p)), h) := by
  rw [S_X11_linesOf L (d + 1)]
  refine (loop_all (n := wr) (F := fun i => G_X11_linesOf_4 (d + 1) (nI p) (nI (cntE (fun k => gI h 68 (1468 + k)) i p)) (nI i) h) (fun i hi => ?_)).trans ?_
  · show G_X11_linesOf_4 _ _ _ _ _ = _
    rw [S_X11_linesOf_4 L (d + 1), ew, if_pos (nI_lt hi (by omega)), if_neg (nI_m1 hp), S_X11_entry L d, nIa, ck_pos (ib_nI (by omega) (by omega)), lt_def, if_neg (by decide), if_pos rfl, ix_nI (by omega), cI_some, S_X11_linesOf_20 L, S_X11_linesOf_23 L, S_X11_linesOf_23 L, nI_1, nI_1]
    unfold cntE
    rw [sumN_s]
    show (if entW (gI h 68 (1468 + i)) = nI p then _ else _) = _
    by_cases c : entW (gI h 68 (1468 + i)) = nI p
    · rw [if_pos c, if_pos c]
    · rw [if_neg c, if_neg c]
      congr 1
      exact Int32.add_zero _
  · show G_X11_linesOf_4 _ _ _ _ _ = _
    rw [S_X11_linesOf_4 L (d + 1), ew, if_neg (nI_nlt (Nat.le_refl _) (by omega))]
theorem m_linesAll {h : MH} (L : lay h) (d : Nat) {wr : Nat} (ew : gI h 68 8 = nI wr) (hw : wr ≤ 30) : F_X11_linesOf (d + 1) (-1) h = some (.int (nI wr), h) := by
  rw [S_X11_linesOf L d]
  refine (loop_all (n := wr) (F := fun i => G_X11_linesOf_4 d (-1) (nI i) (nI i) h) (fun i hi => ?_)).trans ?_
  · show G_X11_linesOf_4 _ _ _ _ _ = _
    rw [S_X11_linesOf_4 L d, ew, if_pos (nI_lt hi (by omega)), if_pos rfl, S_X11_linesOf_20 L, S_X11_linesOf_23 L, nI_1]
  · show G_X11_linesOf_4 _ _ _ _ _ = _
    rw [S_X11_linesOf_4 L d, ew, if_neg (nI_nlt (Nat.le_refl _) (by omega))]
end API
theorem cntE_eq {e a : Nat → Int32} (r : R3 e a) {wr p : Nat} (hw : wr ≤ 30) : cntE (fun k => a (1468 + k)) wr p = cntE e wr p := by
  unfold cntE
  refine sumN_congr fun i hi => ?_
  dsimp only
  rw [r i (by omega)]
section API2
theorem A_of {c : Nat} {h : MH} (I : INV c h) (d : Nat) (a b : Int32) : AGI c (F_X10_of (d + 9) a b) (F_X11_of (d + 9) a b) h := by
  have L := I.1
  obtain ⟨_, ⟨n, W, P, SN, H, X, wr, tn, N, K⟩, M, R⟩ := id I
  have t := NOW_t N
  have m := NOW_m N
  have hn := t.1
  obtain ⟨⟨u1, u2, u3⟩, -⟩ := N.1.2.1
  obtain ⟨dt, ds, rc, rm⟩ := NOW_rl N
  have r4 := N.1.2.2.2.1.1
  have eC : ∀ x, F_X10_of (d + 9) a b h = some x ↔ F_X10_of (d + 9) a b h = some x := fun _ => Iff.rfl
  rcases ib_cases (a := a) (N := n) (by omega) with ⟨e, -⟩ | ⟨p, hp, rfl, e⟩
  · refine ⟨-2, h, h, ?_, ?_, I⟩
    · rw [S_X10_of L (d + 8), c_has L (d + 6) tAt10 t, cI_some, e, if_pos rfl]
    · rw [S_X11_of L (d + 8), m_isPerson L (d + 6) m, cI_some, e, if_pos rfl]
  have ec : F_X10_of (d + 9) (nI p) b h = (if b = 0 then some (.int (nI (W p)), h) else if b = 1 then some (.int (nI (P p)), h) else if b = 2 then some (.int (gI h 13 p), h) else if b = 3 then cI (F_X9_slidesBy (d + 8) 10 (gR h 10 9) (nI p) h) (fun x7 h6 => some (.int x7, h6)) else some (.int (-2), h)) := by
    rw [S_X10_of L (d + 8), c_has L (d + 6) tAt10 t, cI_some, e, if_neg i10, ck_pos (ib_nI (by omega) (by omega)), ck_pos (ib_nI (by omega) (by omega)), ck_pos (ib_nI (by omega) (by omega)), ix_nI (by omega), show gI h 11 p = nI (W p) from (t.2.2.1 p hp).1, show gI h 12 p = nI (P p) from (t.2.2.2.1 p hp).1]
  have em : ∀ {k : MH}, lay k → gI k 68 = gI h 68 → mdl k n W P SN → F_X11_of (d + 9) (nI p) b k = (if b = 0 then some (.int (nI (W p)), k) else if b = 1 then some (.int (nI (P p)), k) else if b = 2 then some (.int (gI h 13 p), k) else if b = 3 then cI (F_X11_slidesOf (d + 8) (gI k 68 3) (nI p) k) (fun x7 h6 => some (.int x7, h6)) else some (.int (-2), k)) := by
    intro k Lk ek mk
    rw [S_X11_of Lk (d + 8), m_isPerson Lk (d + 6) mk, cI_some, e, if_neg i10, nIa, nIa, nIa, ck_pos (ib_nI (by omega) (by omega)), ck_pos (ib_nI (by omega) (by omega)), ck_pos (ib_nI (by omega) (by omega)), ix_nI (n := 22 + p) (by omega), ix_nI (n := 9 + p) (by omega), ix_nI (n := 30 + p) (by omega), (mk.2.2.1 p hp).1, (mk.2.2.2.1 p hp).1]
    rw [show gI h 13 p = gI k 68 (30 + p) by rw [ek]; exact (r4 p hp).1]
  by_cases b0 : b = 0
  · exact ⟨_, h, h, by rw [ec, if_pos b0], by rw [em L rfl m, if_pos b0], I⟩
  by_cases b1 : b = 1
  · exact ⟨_, h, h, by rw [ec, if_neg b0, if_pos b1], by rw [em L rfl m, if_neg b0, if_pos b1], I⟩
  by_cases b2 : b = 2
  · exact ⟨_, h, h, by rw [ec, if_neg b0, if_neg b1, if_pos b2], by rw [em L rfl m, if_neg b0, if_neg b1, if_pos b2], I⟩
  by_cases b3 : b = 3
  · obtain ⟨g1, e1, s1⟩ := c_slidesBy L (d + 5) tAt10 t u1 u3 rc hp
    have s1' : sm SCR h g1 := sm_mono s1 (by decide)
    have L1 : lay g1 := lay_call (d + 8) 188 [.ref 10, .ref (gR h 10 9), .int (nI p)] h _ g1 rfl e1 L
    have N1 := NOW_sm s1' N
    obtain ⟨g2, e2, s2⟩ := m_slidesOf L1 d (NOW_m N1) (NOW_H N1).2.1 u3 (dt := dt) (ds := ds) (rlM_sm s1' rm) hp
    have s2' : sm SCR g1 g2 := sm_mono s2 (by decide)
    have L2 : lay g2 := lay_call (d + 8) 196 [.ref 67, .int (gI g1 68 3), .int (nI p)] g1 _ g2 rfl e2 L1
    refine ⟨_, g1, g2, by rw [ec, if_neg b0, if_neg b1, if_neg b2, if_pos b3, e1, cI_some], ?_, INV_sm s2' L2 (INV_sm s1' L1 I)⟩
    rw [em L1 (sm_gI s1' (by decide) (by decide)) (NOW_m N1), if_neg b0, if_neg b1, if_neg b2, if_pos b3, e2, cI_some]
  · exact ⟨_, h, h, by rw [ec, if_neg b0, if_neg b1, if_neg b2, if_neg b3], by rw [em L rfl m, if_neg b0, if_neg b1, if_neg b2, if_neg b3], I⟩
theorem A_place {c : Nat} {h : MH} (I : INV c h) (d : Nat) (a b : Int32) : AGI c (F_X10_place (d + 4) a b) (F_X11_place (d + 4) a b) h := by
  have L := I.1
  obtain ⟨_, ⟨n, W, P, SN, H, X, wr, tn, N, K⟩, M, R⟩ := id I
  have t := NOW_t N
  have m := NOW_m N
  rcases in_cases (a := a) (N := 9) (by omega) with ⟨e, hne⟩ | ⟨p, hp, rfl, e⟩
  · have e' : bI (0 ≤ a ∧ a ≤ 8) = 0 := e
    refine ⟨-1, h, h, ?_, ?_, I⟩
    · rw [S_X10_place L (d + 3), c_within L, cI_some, e', if_pos rfl]
    · rw [S_X11_place L (d + 3), m_isPlace L, cI_some, bI_neg hne, if_pos rfl]
  have e' : bI (0 ≤ nI p ∧ nI p ≤ 8) = 1 := e
  have ec : F_X10_place (d + 4) (nI p) b h = (if b = 0 then some (.int (nI (SN p)), h) else if b = 1 then some (.int (nI (setN (fun p' => P p' == p) n)), h) else if b = 2 then some (.int (nI (SN p + sumN (fun p' => if P p' = p then W p' else 0) n)), h) else some (.int (-1), h)) := by
    rw [S_X10_place L (d + 3), c_within L, cI_some, e', if_neg i10, ck_pos (ib_nI (by omega) (by omega)), ix_nI (by omega), show gI h 14 p = nI (SN p) from (t.2.2.2.2 p hp).1, c_peopleAt L (d + 2) tAt10 t hp, cI_some, c_weightAt L (d + 2) tAt10 t hp, cI_some]
  have em : F_X11_place (d + 4) (nI p) b h = (if b = 0 then some (.int (nI (SN p)), h) else if b = 1 then some (.int (nI (setN (fun p' => P p' == p) n)), h) else if b = 2 then some (.int (nI (SN p + sumN (fun p' => if P p' = p then W p' else 0) n)), h) else some (.int (-1), h)) := by
    rw [S_X11_place L (d + 3), m_isPlace L, cI_some, bI_pos (ib_nI hp (by omega)), if_neg i10, nIa, ck_pos (ib_nI (by omega) (by omega)), ix_nI (by omega), (m.2.2.2.2 p hp).1, m_peopleIn L (d + 2) m hp, cI_some, m_loadOf L d m hp, cI_some]
  by_cases b0 : b = 0
  · exact ⟨_, h, h, by rw [ec, if_pos b0], by rw [em, if_pos b0], I⟩
  by_cases b1 : b = 1
  · exact ⟨_, h, h, by rw [ec, if_neg b0, if_pos b1], by rw [em, if_neg b0, if_pos b1], I⟩
  by_cases b2 : b = 2
  · exact ⟨_, h, h, by rw [ec, if_neg b0, if_neg b1, if_pos b2], by rw [em, if_neg b0, if_neg b1, if_pos b2], I⟩
  · exact ⟨_, h, h, by rw [ec, if_neg b0, if_neg b1, if_neg b2], by rw [em, if_neg b0, if_neg b1, if_neg b2], I⟩
theorem A_book {c : Nat} {h : MH} (I : INV c h) (d : Nat) (a b : Int32) : AGI c (F_X10_book (d + 3) a b) (F_X11_book (d + 3) a b) h := by
  have L := I.1
  obtain ⟨_, ⟨n, W, P, SN, H, X, wr, tn, N, K⟩, M, R⟩ := id I
  obtain ⟨-, -, ⟨w1, w2, w3⟩⟩ := N.1.2.1
  have r3 := N.1.2.2.1
  have w1' : gI h 10 8 = nI wr := w1
  by_cases a1 : a = -1
  · exact ⟨nI wr, h, h, by rw [S_X10_book L (d + 2), if_pos a1, w1'], by rw [S_X11_book L (d + 2), if_pos a1, w2], I⟩
  rcases in_cases (a := a) (N := wr) (by omega) with ⟨e, hne⟩ | ⟨k, hk, rfl, e⟩
  · refine ⟨-2, h, h, ?_, ?_, I⟩
    · rw [S_X10_book L (d + 2), if_neg a1, S_X9_entry L (d + 1) 10 _ _ tAt10, c_within L, cI_some, w1', e, if_pos rfl, cI_some]
    · rw [S_X11_book L (d + 2), if_neg a1, m_isIn L, w2, cI_some, e, if_pos rfl]
  have rk : gI h 15 k = gI h 68 (1468 + k) := r3 k (by omega)
  have ec : F_X10_book (d + 3) (nI k) b h = some (.int (if b = 0 then gI h 68 (1468 + k) / 324 else if b = 1 then gI h 68 (1468 + k) / 81 - gI h 68 (1468 + k) / 81 / 4 * 4 else if b = 2 then gI h 68 (1468 + k) / 9 - gI h 68 (1468 + k) / 9 / 9 * 9 else if b = 3 then gI h 68 (1468 + k) - gI h 68 (1468 + k) / 9 * 9 else -2), h) := by
    rw [S_X10_book L (d + 2), if_neg a1, S_X9_entry L (d + 1) 10 _ _ tAt10, c_within L, cI_some, w1', e, if_neg i10]
    simp (disch := omega) only [nI_ltI, nI_leI, nI_eq, nIl, nIL, nIe, nIz, ib_nIi, ib_L, ix_L, ck_pos, if_pos, if_neg, lt_def, ck_true, true_and, and_true, true_or, or_true, ix_nI, nI_1, nIa, nIb, nI_add, cI_some, cR_some, cL_some, cV_some, if_true, if_false, Bool.false_eq_true, ne_eq, not_true_eq_false, not_false_eq_true, rk]
    rw [← rk]
    simp only [apply_ite (fun x : Int32 => some (Value.int x, h)), apply_ite (fun o : Option (Value × MH) => cI o fun x2 h1 => some (Value.int x2, h1)), cI_some]
  have em : F_X11_book (d + 3) (nI k) b h = some (.int (if b = 0 then gI h 68 (1468 + k) / 324 else if b = 1 then gI h 68 (1468 + k) / 81 - gI h 68 (1468 + k) / 81 / 4 * 4 else if b = 2 then gI h 68 (1468 + k) / 9 - gI h 68 (1468 + k) / 9 / 9 * 9 else if b = 3 then gI h 68 (1468 + k) - gI h 68 (1468 + k) / 9 * 9 else -2), h) := by
    rw [S_X11_book L (d + 2), if_neg a1, m_isIn L, w2, cI_some, e, if_neg i10, m_isIn L, cI_some]
    rcases in_cases (a := b) (N := 4) (by omega) with ⟨e2, hne⟩ | ⟨j, hj, rfl, e2⟩
    · have e2' : bI (0 ≤ b ∧ b ≤ 3) = 0 := e2
      have ne : ∀ i, i < 4 → ¬ b = nI i := fun i hi q => hne (by rw [q]; exact ib_nI hi (by omega))
      rw [e2', if_pos rfl, if_neg (show ¬ b = 0 from ne 0 (by omega)), if_neg (show ¬ b = 1 from ne 1 (by omega)), if_neg (show ¬ b = 2 from ne 2 (by omega)), if_neg (show ¬ b = 3 from ne 3 (by omega))]
    · have e2' : bI (0 ≤ nI j ∧ nI j ≤ 3) = 1 := e2
      rw [e2', if_neg i10, S_X11_entry L (d + 1), nIa, ck_pos (ib_nI (by omega) (by omega)), lt_def, ix_nI (by omega)]
      simp only [apply_ite (fun x : Int32 => some (Value.int x, h)), apply_ite (fun o : Option (Value × MH) => cI o fun x2 h1 => some (Value.int x2, h1)), cI_some]
      match j, hj with
      | 0, _ => rfl
      | 1, _ => rfl
      | 2, _ => rfl
      | 3, _ => rfl
  exact ⟨_, h, h, ec, em, I⟩
theorem A_ledger {c : Nat} {h : MH} (I : INV c h) (d : Nat) (a : Int32) : AGI c (F_X10_ledger (d + 4) a) (F_X11_ledger (d + 4) a) h := by
  have L := I.1
  obtain ⟨_, ⟨n, W, P, SN, H, X, wr, tn, N, K⟩, M, R⟩ := id I
  have t := NOW_t N
  have m := NOW_m N
  have hn := t.1
  obtain ⟨-, -, ⟨w1, w2, w3⟩⟩ := N.1.2.1
  have r3 := N.1.2.2.1
  have w1' : gI h 10 8 = nI wr := w1
  by_cases a1 : a = -1
  · subst a1
    exact ⟨nI wr, h, h, by rw [S_X10_ledger L (d + 3), if_pos rfl, w1'], by rw [S_X11_ledger L (d + 3), if_pos rfl, S_X11_ledger_7 L, m_linesAll L (d + 2) w2 w3, cI_some], I⟩
  rcases ib_cases (a := a) (N := n) (by omega) with ⟨e, -⟩ | ⟨p, hp, rfl, e⟩
  · refine ⟨-2, h, h, ?_, ?_, I⟩
    · rw [S_X10_ledger L (d + 3), if_neg a1, c_has L (d + 1) tAt10 t, cI_some, e, if_pos rfl]
    · rw [S_X11_ledger L (d + 3), if_neg a1, m_isPerson L (d + 1) m, cI_some, e, if_pos rfl]
  · refine ⟨nI (cntE (gI h 15) wr p), h, h, ?_, ?_, I⟩
    · rw [S_X10_ledger L (d + 3), if_neg a1, c_has L (d + 1) tAt10 t, cI_some, e, if_neg i10, c_times10 L d w1' w3, cI_some]
    · rw [S_X11_ledger L (d + 3), if_neg a1, m_isPerson L (d + 1) m, cI_some, e, if_neg i10, S_X11_ledger_7 L, m_lines L (d + 1) w2 w3 (by omega), cI_some, cntE_eq r3 w3]
theorem A_travelled {c : Nat} {h : MH} (I : INV c h) (d : Nat) : AGI c (F_X10_travelled (d + 4)) (F_X11_travelled (d + 4)) h := by
  have L := I.1
  obtain ⟨_, ⟨n, W, P, SN, H, X, wr, tn, N, K⟩, M, R⟩ := id I
  have t := NOW_t N
  have m := NOW_m N
  have hn := t.1
  obtain ⟨-, -, ⟨w1, w2, w3⟩⟩ := N.1.2.1
  have r3 := N.1.2.2.1
  have w1' : gI h 10 8 = nI wr := w1
  have bd : ∀ p, cntE (gI h 15) wr p < 2 ^ 31 := fun p => by have := cntE_le (gI h 15) wr p; omega
  have av : ∀ i, amv (cntE (gI h 15) wr) (amx (cntE (gI h 15) wr) i) < 2 ^ 31 := fun i => by
    cases amx (cntE (gI h 15) wr) i with
    | none => exact Nat.two_pow_pos 31
    | some b => exact bd b
  refine ⟨oI (amx (cntE (gI h 15) wr) n), h, h, ?_, ?_, I⟩
  · rw [S_X10_travelled L (d + 3)]
    obtain ⟨o, -, e⟩ := loop_rel (n := n) (I := fun _ _ => True) (G := fun i (o : Option Value) => G_X10_travelled_6 (d + 3) (oI (amx (cntE (gI h 15) wr) i)) (nI (amv (cntE (gI h 15) wr) (amx (cntE (gI h 15) wr) i))) (nI i) o h) (s := none) (fun i o hi _ => by
      refine ⟨some (.int (nI (cntE (gI h 15) wr i))), trivial, ?_⟩
      have b1 := bd i
      have b2 := av i
      rw [S_X10_travelled_6 L (d + 3), show gI h 10 0 = nI n from t.2.1, if_pos (nI_lt hi (by omega)), c_times10 L d w1' w3, cI_some, S_X10_travelled_25 L, S_X10_travelled_25 L, nI_1, amx_s]
      by_cases q : amv (cntE (gI h 15) wr) (amx (cntE (gI h 15) wr) i) < cntE (gI h 15) wr i
      · rw [if_neg (fun w => by have := (nI_leI (by omega) (by omega)).mp w; omega), if_pos q]
        rfl
      · rw [if_pos (nI_le (by omega) (by omega)), if_neg q]) trivial
    refine e.trans ?_
    rw [S_X10_travelled_6 L (d + 3), show gI h 10 0 = nI n from t.2.1, if_neg (nI_nlt (Nat.le_refl _) (by omega))]
  · rw [S_X11_travelled L (d + 3)]
    refine (loop_all (n := n) (F := fun i => G_X11_travelled_4 (d + 3) (oI (amx (cntE (gI h 15) wr) i)) (nI i) h) (fun i hi => ?_)).trans ?_
    · show G_X11_travelled_4 _ _ _ _ = _
      have b1 := bd i
      have b2 := av i
      rw [S_X11_travelled_4 L (d + 3), m.2.1, if_pos (nI_lt hi (by omega)), m_lines L (d + 1) w2 w3 (by omega), cI_some, cntE_eq r3 w3, amx_s]
      have fin : ∀ v : Int32, v = nI (amv (cntE (gI h 15) wr) (amx (cntE (gI h 15) wr) i)) → G_X11_travelled_21 (d + 3) (oI (amx (cntE (gI h 15) wr) i)) (nI i) v (nI (cntE (gI h 15) wr i)) h = G_X11_travelled_4 (d + 3) (oI (if amv (cntE (gI h 15) wr) (amx (cntE (gI h 15) wr) i) < cntE (gI h 15) wr i then some i else amx (cntE (gI h 15) wr) i)) (nI (i + 1)) h := by
        rintro v rfl
        rw [S_X11_travelled_21 L, S_X11_travelled_24 L, S_X11_travelled_24 L, nI_1]
        by_cases q : amv (cntE (gI h 15) wr) (amx (cntE (gI h 15) wr) i) < cntE (gI h 15) wr i
        · rw [if_neg (fun w => by have := (nI_leI (by omega) (by omega)).mp w; omega), if_pos q]
          rfl
        · rw [if_pos (nI_le (by omega) (by omega)), if_neg q]
      cases hb : amx (cntE (gI h 15) wr) i with
      | none =>
        rw [hb] at fin
        rw [if_pos (show oI none = -1 from rfl)]
        exact fin _ rfl
      | some b =>
        have hbl := amx_lt hb
        rw [hb] at fin
        rw [if_neg (show ¬ oI (some b) = -1 from nI_m1 (by omega)), show oI (some b) = nI b from rfl, m_lines L (d + 1) w2 w3 (by omega), cI_some, cntE_eq r3 w3]
        exact fin _ rfl
    · show G_X11_travelled_4 _ _ _ _ = _
      rw [S_X11_travelled_4 L (d + 3), m.2.1, if_neg (nI_nlt (Nat.le_refl _) (by omega))]
end API2
