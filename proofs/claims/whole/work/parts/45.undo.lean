--deps:19.lay 21.facts 22.00.names 22.01.eq 22.02.eq 22.03.eq 22.04.eq 22.05.eq 22.06.eq 22.07.eq 22.08.eq 22.09.eq 22.10.eq 22.11.eq 22.12.eq 22.13.eq 22.14.eq 22.15.eq 22.16.eq 22.17.eq 22.18.eq 22.19.eq 22.20.eq 22.21.eq 22.22.eq 22.23.eq 23.num 24.town 25.evc 26.evm 27.law 28.says 29.inv 30.api1 31.copy 32.api2 33.api3 34.api4 35.api5 36.deeds 37.hours 38.mdeeds 39.mhours 40.hist 41.full 42.acts 43.acts2 44.played
/-! TAKING BACK; what comes; who is free -/
set_option linter.unusedSectionVars false
def undT (F : FS) (m : Nat) : TS := ((fun p => if p < ix (F.2.2.2.2.2 m 0) then ix (F.2.2.2.2.2 m (4 + p)) else F.2.2.2.1.1 p), (fun c => ix (F.2.2.2.2.2 m (8 + c))), ix (F.2.2.2.2.2 m 1), ix (F.2.2.2.2.2 m 2), ix (F.2.2.2.2.2 m 3), fun k => F.2.2.2.2.2 m (17 + k))
def Fu (F : FS) (m : Nat) : FS := (F.1, F.2.1, F.2.2.1, undT F m, (m, F.2.2.2.2.2))
theorem Fu_ok {F : FS} (hn : F.1.1 ≤ 4) (ok : OKF F) {m : Nat} (hm : F.2.2.2.2.1 = m + 1) : OKF (Fu F m) := by
  obtain ⟨o1, o2, o3, o4, o5, ⟨pk, i1, i2, i3, i4⟩⟩ := ok
  obtain ⟨j1, j2, -, -, -, j6, -⟩ := i1 m (by omega)
  have e0 : ix (F.2.2.2.2.2 m 0) = pk m := by rw [j1]; exact ix_nI (by omega)
  refine ⟨o1, o2, fun p hp hk => ?_, o4, o5, pk, fun k hk => ?_, fun k hk => ?_, fun k hk p p1 p2 => ?_, i4⟩
  · have hk' : F.1.1 ≤ p := hk
    show (if p < ix (F.2.2.2.2.2 m 0) then ix (F.2.2.2.2.2 m (4 + p)) else F.2.2.2.1.1 p) = 0
    rw [e0, if_neg (by omega)]; exact o3 p hp hk
  · have hk' : k < m := hk
    exact i1 k (by omega)
  · have hk' : k + 1 < m := hk
    exact i2 k (by omega)
  · have hk' : k + 1 = m := hk
    show nI (if p < ix (F.2.2.2.2.2 m 0) then ix (F.2.2.2.2.2 m (4 + p)) else F.2.2.2.1.1 p) = nI (F.2.2.1 p)
    rw [e0]
    by_cases c : p < pk m
    · rw [if_pos c]
      have := i2 k (by omega) p p1 (by rw [hk']; exact c)
      rw [hk'] at this
      obtain ⟨x, x1, x2, -⟩ := j6 p (by omega)
      refine Eq.trans ?_ this
      rw [x2, ix_nI (by omega)]
    · rw [if_neg c]
      exact i3 m hm.symm p (by omega) p2
theorem ix_n {v : Int32} {c : Nat} (h : v = nI c) (hc : c < 2 ^ 31) : nI (ix v) = v := by rw [h, ix_nI hc]
theorem c_takeBack {h : MH} (L : lay h) (d : Nat) {F : FS} (c : CFS h F) (ok : OKF F) {m : Nat} (hm : F.2.2.2.2.1 = m + 1) : ∃ h', F_X6_takeBack (d + 1) h = some (.int (nI m), h') ∧ CFS h' (Fu F m) ∧ CFr h h' := by
  obtain ⟨⟨t0, t1, t2, t3, t4, t5, t6, t7, t8⟩, c2, c3, ⟨fst, r1, r2, r3, r4, r5⟩⟩ := c
  obtain ⟨o1, o2, o3, o4, o5, ⟨pk, i1, -, -, -⟩⟩ := ok
  obtain ⟨j1, j2, ⟨vH, bH, eH⟩, ⟨vX, bX, eX⟩, ⟨vw, bw, ew⟩, j6, j7⟩ := i1 m (by omega)
  have hx : (fst + m) % 31 < 31 := Nat.mod_lt _ (by decide)
  have hr : ∀ j, j < 47 → gI h 18 ((fst + m) % 31 * 47 + j) = F.2.2.2.2.2 m j := r5 m (by omega)
  have ey : nI (m + 1) - 1 = nI m := nI_pred m
  have e00 : ((0 : Int32) < 0) = False := eq_false (by decide)
  have e90 : ((9 : Int32) < 0) = False := eq_false (by decide)
  have e30 : ((30 : Int32) < 0) = False := eq_false (by decide)
  rw [S_X6_takeBack L d, r4, hm, if_neg (nI_ne0 (by omega) (by omega)), ey, lt_def, gI_sIs, up_s, up_o _ _ (by decide), r3, nI_add, nIr (by omega) (by omega) (by omega), nIn, lt_def]
  have hx1 : (fst + m) % 31 * 47 + 47 ≤ 1457 := by omega
  generalize (fst + m) % 31 * 47 = x at hr hx1 ⊢
  have h0 : gI h 18 x = nI (pk m) := (hr 0 (by omega)).trans j1
  have h1 : gI h 18 (x + 1) = nI vH := (hr 1 (by omega)).trans eH
  have h2 : gI h 18 (x + 2) = nI vX := (hr 2 (by omega)).trans eX
  have h3 : gI h 18 (x + 3) = nI vw := (hr 3 (by omega)).trans ew
  refine ⟨rI (rI (rI (sI (sI (sI (sI h 17 2 (nI m)) 10 5 (nI vH)) 10 6 (nI vX)) 10 8 (nI vw)) 12 (va_cpy (gI h 18) (gI h 12) (x + 4) 0 (pk m))) 14 (va_cpy (gI h 18) (gI h 14) (x + 4 + 4) 0 9)) 15 (va_cpy (gI h 18) (gI h 15) (x + 4 + 4 + 9) 0 30), ?_, ?_, ?_⟩
  · simp (disch := omega) only [nI_ltI, nI_leI, nI_eq, nIl, nIL, nIe, nIz, ib_nIi, ib_L, ix_L, ck_pos, if_pos, if_neg, lt_def, ck_true, true_and, and_true, true_or, or_true, ix_nI, nI_1, nIa, nIb, nI_add, cI_some, cR_some, cL_some, cV_some, if_true, if_false, Bool.false_eq_true, ne_eq, not_true_eq_false, not_false_eq_true, e00, e90, e30, gI_sIo, gI_rI', gI_sIs, up_s, h0, h1, h2, h3]
  · have e0 : ix (F.2.2.2.2.2 m 0) = pk m := by rw [j1]; exact ix_nI (by omega)
    have g10 : gI (rI (rI (rI (sI (sI (sI (sI h 17 2 (nI m)) 10 5 (nI vH)) 10 6 (nI vX)) 10 8 (nI vw)) 12 (va_cpy (gI h 18) (gI h 12) (x + 4) 0 (pk m))) 14 (va_cpy (gI h 18) (gI h 14) (x + 4 + 4) 0 9)) 15 (va_cpy (gI h 18) (gI h 15) (x + 4 + 4 + 9) 0 30)) 10 = va_up (va_up (va_up (gI h 10) 5 (nI vH)) 6 (nI vX)) 8 (nI vw) := by simp (disch := decide) only [gI_sIo, gI_sIs, gI_rI', gI_rIs]
    have g12 : gI (rI (rI (rI (sI (sI (sI (sI h 17 2 (nI m)) 10 5 (nI vH)) 10 6 (nI vX)) 10 8 (nI vw)) 12 (va_cpy (gI h 18) (gI h 12) (x + 4) 0 (pk m))) 14 (va_cpy (gI h 18) (gI h 14) (x + 4 + 4) 0 9)) 15 (va_cpy (gI h 18) (gI h 15) (x + 4 + 4 + 9) 0 30)) 12 = va_cpy (gI h 18) (gI h 12) (x + 4) 0 (pk m) := by simp (disch := decide) only [gI_sIo, gI_sIs, gI_rI', gI_rIs]
    have g14 : gI (rI (rI (rI (sI (sI (sI (sI h 17 2 (nI m)) 10 5 (nI vH)) 10 6 (nI vX)) 10 8 (nI vw)) 12 (va_cpy (gI h 18) (gI h 12) (x + 4) 0 (pk m))) 14 (va_cpy (gI h 18) (gI h 14) (x + 4 + 4) 0 9)) 15 (va_cpy (gI h 18) (gI h 15) (x + 4 + 4 + 9) 0 30)) 14 = va_cpy (gI h 18) (gI h 14) (x + 4 + 4) 0 9 := by simp (disch := decide) only [gI_sIo, gI_sIs, gI_rI', gI_rIs]
    have g15 : gI (rI (rI (rI (sI (sI (sI (sI h 17 2 (nI m)) 10 5 (nI vH)) 10 6 (nI vX)) 10 8 (nI vw)) 12 (va_cpy (gI h 18) (gI h 12) (x + 4) 0 (pk m))) 14 (va_cpy (gI h 18) (gI h 14) (x + 4 + 4) 0 9)) 15 (va_cpy (gI h 18) (gI h 15) (x + 4 + 4 + 9) 0 30)) 15 = va_cpy (gI h 18) (gI h 15) (x + 4 + 4 + 9) 0 30 := by simp (disch := decide) only [gI_sIo, gI_sIs, gI_rI', gI_rIs]
    have g17 : gI (rI (rI (rI (sI (sI (sI (sI h 17 2 (nI m)) 10 5 (nI vH)) 10 6 (nI vX)) 10 8 (nI vw)) 12 (va_cpy (gI h 18) (gI h 12) (x + 4) 0 (pk m))) 14 (va_cpy (gI h 18) (gI h 14) (x + 4 + 4) 0 9)) 15 (va_cpy (gI h 18) (gI h 15) (x + 4 + 4 + 9) 0 30)) 17 = va_up (gI h 17) 2 (nI m) := by simp (disch := decide) only [gI_sIo, gI_sIs, gI_rI', gI_rIs]
    have go : ∀ a, ¬ a = 10 → ¬ a = 12 → ¬ a = 14 → ¬ a = 15 → ¬ a = 17 → gI (rI (rI (rI (sI (sI (sI (sI h 17 2 (nI m)) 10 5 (nI vH)) 10 6 (nI vX)) 10 8 (nI vw)) 12 (va_cpy (gI h 18) (gI h 12) (x + 4) 0 (pk m))) 14 (va_cpy (gI h 18) (gI h 14) (x + 4 + 4) 0 9)) 15 (va_cpy (gI h 18) (gI h 15) (x + 4 + 4 + 9) 0 30)) a = gI h a := by
      intro a q1 q2 q3 q4 q5
      simp (disch := assumption) only [gI_sIo, gI_rI']
    generalize rI (rI (rI (sI (sI (sI (sI h 17 2 (nI m)) 10 5 (nI vH)) 10 6 (nI vX)) 10 8 (nI vw)) 12 (va_cpy (gI h 18) (gI h 12) (x + 4) 0 (pk m))) 14 (va_cpy (gI h 18) (gI h 14) (x + 4 + 4) 0 9)) 15 (va_cpy (gI h 18) (gI h 15) (x + 4 + 4 + 9) 0 30) = hh at g10 g12 g14 g15 g17 go
    refine ⟨⟨t0, ?_, fun p hp => ?_, fun p hp => ?_, fun p hp => ?_, ?_, ?_, ?_, fun k hk => ?_⟩, fun p hp => ?_, fun p hp => ?_, fst, r1, ?_, ?_, ?_, fun k hk j hj => ?_⟩
    · rw [g10, up_o _ _ (by decide), up_o _ _ (by decide), up_o _ _ (by decide)]; exact t1
    · rw [go _ (by decide) (by decide) (by decide) (by decide) (by decide)]; exact t2 p hp
    · show gI hh 12 p = nI (if p < ix (F.2.2.2.2.2 m 0) then ix (F.2.2.2.2.2 m (4 + p)) else F.2.2.2.1.1 p) ∧ (if p < ix (F.2.2.2.2.2 m 0) then ix (F.2.2.2.2.2 m (4 + p)) else F.2.2.2.1.1 p) ≤ 8
      rw [g12, e0]
      by_cases c : p < pk m
      · obtain ⟨z, z1, z2, -⟩ := j6 p hp
        rw [if_pos c, pk_cpy_in (by omega) (by omega), show x + 4 + (p - 0) = x + (4 + p) by omega, hr _ (by omega), z2, ix_nI (by omega)]
        exact ⟨rfl, z1⟩
      · rw [if_neg c, pk_cpy_out (by omega)]; exact t3 p hp
    · obtain ⟨z, z1, z2⟩ := j7 p hp
      show gI hh 14 p = nI (ix (F.2.2.2.2.2 m (8 + p))) ∧ ix (F.2.2.2.2.2 m (8 + p)) ≤ 9
      rw [g14, pk_cpy_in (by omega) (by omega), show x + 4 + 4 + (p - 0) = x + (8 + p) by omega, hr _ (by omega), z2, ix_nI (by omega)]
      exact ⟨rfl, z1⟩
    · show gI hh 10 5 = nI (ix (F.2.2.2.2.2 m 1)) ∧ ix (F.2.2.2.2.2 m 1) ≤ 9999
      rw [g10, up_o _ _ (by decide), up_o _ _ (by decide), up_s, eH, ix_nI (by omega)]
      exact ⟨rfl, bH⟩
    · show gI hh 10 6 = nI (ix (F.2.2.2.2.2 m 2)) ∧ ix (F.2.2.2.2.2 m 2) ≤ 30840
      rw [g10, up_o _ _ (by decide), up_s, eX, ix_nI (by omega)]
      exact ⟨rfl, bX⟩
    · show gI hh 10 8 = nI (ix (F.2.2.2.2.2 m 3)) ∧ ix (F.2.2.2.2.2 m 3) ≤ 30
      rw [g10, up_s, ew, ix_nI (by omega)]
      exact ⟨rfl, bw⟩
    · show gI hh 15 k = F.2.2.2.2.2 m (17 + k)
      rw [g15, pk_cpy_in (by omega) (by omega), show x + 4 + 4 + 9 + (k - 0) = x + (17 + k) by omega, hr _ (by omega)]
    · rw [go _ (by decide) (by decide) (by decide) (by decide) (by decide)]; exact c2 p hp
    · rw [go _ (by decide) (by decide) (by decide) (by decide) (by decide)]; exact c3 p hp
    · show m ≤ 30; omega
    · rw [g17, up_o _ _ (by decide)]; exact r3
    · rw [g17, up_s]; rfl
    · have hk' : k < m := hk
      rw [go 18 (by decide) (by decide) (by decide) (by decide) (by decide)]; exact r5 k (by omega) j hj
  · refine CFr_trans (CFr_rI (a := 17) L (by decide) : CFr h (sI h 17 2 (nI m))) ?_
    have l1 : lay (sI h 17 2 (nI m)) := layI L (by decide)
    refine CFr_trans (CFr_rI (a := 10) l1 (by decide) : CFr _ (sI _ 10 5 (nI vH))) ?_
    have l2 : lay (sI (sI h 17 2 (nI m)) 10 5 (nI vH)) := layI l1 (by decide)
    refine CFr_trans (CFr_rI (a := 10) l2 (by decide) : CFr _ (sI _ 10 6 (nI vX))) ?_
    have l3 : lay (sI (sI (sI h 17 2 (nI m)) 10 5 (nI vH)) 10 6 (nI vX)) := layI l2 (by decide)
    refine CFr_trans (CFr_rI (a := 10) l3 (by decide) : CFr _ (sI _ 10 8 (nI vw))) ?_
    have l4 : lay (sI (sI (sI (sI h 17 2 (nI m)) 10 5 (nI vH)) 10 6 (nI vX)) 10 8 (nI vw)) := layI l3 (by decide)
    refine CFr_trans (CFr_rI (a := 12) (f := va_cpy (gI h 18) (gI h 12) (x + 4) 0 (pk m)) l4 (by decide)) ?_
    have l5 := lay_rI (r := 12) (f := va_cpy (gI h 18) (gI h 12) (x + 4) 0 (pk m)) l4 (by decide)
    refine CFr_trans (CFr_rI (a := 14) (f := va_cpy (gI h 18) (gI h 14) (x + 4 + 4) 0 9) l5 (by decide)) ?_
    exact CFr_rI (lay_rI l5 (by decide)) (by decide)
theorem m_undo {h : MH} (L : lay h) (d : Nat) {F : FS} (c : MFS h F) (ok : OKF F) {m : Nat} (hm : F.2.2.2.2.1 = m + 1) : ∃ h', F_X11_undo (d + 1) h = some (.int (nI m), h') ∧ MFS h' (Fu F m) ∧ MFr h h' := by
  obtain ⟨⟨t0, t1, t2, t3, t4, t5, t6, t7, t8⟩, c2, c3, c4, ⟨r1, r2, r3⟩⟩ := c
  obtain ⟨o1, o2, o3, o4, o5, ⟨pk, i1, i2, i3, i4⟩⟩ := ok
  obtain ⟨j1, j2, ⟨vH, bH, eH⟩, ⟨vX, bX, eX⟩, ⟨vw, bw, ew⟩, j6, j7⟩ := i1 m (by omega)
  have hr : ∀ j, j < 47 → gI h 68 (58 + 47 * m + j) = F.2.2.2.2.2 m j := r3 m (by omega)
  have ey : nI (m + 1) - 1 = nI m := nI_pred m
  have Lb : ∀ g, lay (rI h 68 g) := fun g => lay_rI L (by decide)
  rw [S_X11_undo L d, r2, hm, if_neg (nI_ne0 (by omega) (by omega)), ey, lt_def, gI_sIs, up_s, nIm, nIa, lt_def, sI_def]
  have hm30 : m < 30 := by omega
  generalize hx : 58 + 47 * m = x at hr
  have hx1 : x + 47 ≤ 1468 ∧ 58 ≤ x := by omega
  have l1 := loop_all (n := 16) (F := fun i => G_X11_undo_26 d (nI x) (nI i) (rI h 68 (cpA (va_up (gI h 68) 4 (nI m)) (x + 1) 6 i))) (fun i hi => by
    show G_X11_undo_26 _ _ _ _ = _
    rw [S_X11_undo_26 (Lb _) d, if_pos ((nIl (by omega) (by omega)).mpr hi), nI_1, nI_add, ck_pos (ib_nI (by omega) (by omega)), nIa, ck_pos (ib_nI (by omega) (by omega)), ix_nI (by omega), ix_nI (by omega), lt_def, gI_rIs, sI_rI, cpA_s (by omega), nI_1])
  rw [cpA_0] at l1
  have l1' : G_X11_undo_26 d (nI x) 0 (rI h 68 (va_up (gI h 68) 4 (nI m))) = _ := l1
  rw [l1']
  clear l1 l1'
  generalize hb2 : cpA (va_up (gI h 68) 4 (nI m)) (x + 1) 6 16 = b2
  have b2o : ∀ k, ¬ k = 4 → (k < 6 ∨ 22 ≤ k) → b2 k = gI h 68 k := by
    intro k k4 hk
    rw [← hb2]
    unfold cpA
    rw [if_neg (by omega), up_o _ _ k4]
  have b2i : ∀ j, j < 16 → b2 (6 + j) = F.2.2.2.2.2 m (1 + j) := by
    intro j hj
    rw [← hb2]
    unfold cpA
    rw [if_pos (by omega), up_o _ _ (by omega), show x + 1 + (6 + j - 6) = x + (1 + j) by omega, hr _ (by omega)]
  have b24 : b2 4 = nI m := by
    rw [← hb2]
    unfold cpA
    rw [if_neg (by omega), up_s]
  have e0 : b2 x = nI (pk m) := by
    rw [b2o x (by omega) (by omega), ← j1, ← hr 0 (by omega)]
    rfl
  rw [S_X11_undo_26 (Lb _) d, if_neg (by decide), ck_pos (ib_nI (by omega) (by omega)), ix_nI (by omega), gI_rIs, e0, lt_def]
  have l2 := loop_all (n := F.1.1 - pk m) (F := fun i => G_X11_undo_50 d (nI x) (nI (pk m + i)) (rI h 68 (cpA b2 (26 + pk m) (9 + pk m) i))) (fun i hi => by
    show G_X11_undo_50 _ _ _ _ = _
    have z : cpA b2 (26 + pk m) (9 + pk m) i 0 = nI F.1.1 := by
      unfold cpA
      rw [if_neg (by omega), b2o 0 (by omega) (by omega), t1]
    rw [S_X11_undo_50 (Lb _) d, gI_rIs, z, if_pos (nI_lt (by omega) (by omega)), nIa, ck_pos (ib_nI (by omega) (by omega)), nIa, ck_pos (ib_nI (by omega) (by omega)), ix_nI (by omega), ix_nI (by omega), lt_def, sI_rI, show 26 + (pk m + i) = 26 + pk m + i by omega, show 9 + (pk m + i) = 9 + pk m + i by omega, cpA_s (by omega), nI_1, Nat.add_assoc])
  rw [cpA_0] at l2
  have l2' : G_X11_undo_50 d (nI x) (nI (pk m)) (rI h 68 b2) = _ := l2
  rw [l2']
  clear l2 l2'
  have z : cpA b2 (26 + pk m) (9 + pk m) (F.1.1 - pk m) 0 = nI F.1.1 := by
    unfold cpA
    rw [if_neg (by omega), b2o 0 (by omega) (by omega), t1]
  rw [S_X11_undo_50 (Lb _) d, gI_rIs, z, if_neg (nI_nlt (by omega) (by omega))]
  have l3 := loop_all (n := 30) (F := fun i => G_X11_undo_72 d (nI x) (nI i) (rI h 68 (cpA (cpA b2 (26 + pk m) (9 + pk m) (F.1.1 - pk m)) (x + 1 + 16) 1468 i))) (fun i hi => by
    show G_X11_undo_72 _ _ _ _ = _
    rw [S_X11_undo_72 (Lb _) d, if_pos ((nIl (by omega) (by omega)).mpr hi), nI_1, nIb, nI_add, ck_pos (ib_nI (by omega) (by omega)), nIa, ck_pos (ib_nI (by omega) (by omega)), ix_nI (by omega), ix_nI (by omega), lt_def, gI_rIs, sI_rI, cpA_s (by omega), nI_1])
  rw [cpA_0] at l3
  have l3' : G_X11_undo_72 d (nI x) 0 (rI h 68 (cpA b2 (26 + pk m) (9 + pk m) (F.1.1 - pk m))) = _ := l3
  rw [l3']
  clear l3 l3'
  rw [S_X11_undo_72 (Lb _) d, if_neg (by decide), gI_rIs]
  generalize hb4 : cpA (cpA b2 (26 + pk m) (9 + pk m) (F.1.1 - pk m)) (x + 1 + 16) 1468 30 = b4
  have b4o : ∀ k, k < 1468 → (k < 9 + pk m ∨ 9 + F.1.1 ≤ k) → b4 k = b2 k := by
    intro k k1 hk
    rw [← hb4]
    unfold cpA
    rw [if_neg (by omega), if_neg (by omega)]
  have b4i : ∀ p, pk m ≤ p → p < F.1.1 → b4 (9 + p) = b2 (26 + p) := by
    intro p p1 p2
    rw [← hb4]
    unfold cpA
    rw [if_neg (by omega), if_pos (by omega), show 26 + pk m + (9 + p - (9 + pk m)) = 26 + p by omega]
  have b4e : ∀ k, k < 30 → b4 (1468 + k) = F.2.2.2.2.2 m (17 + k) := by
    intro k hk
    rw [← hb4]
    unfold cpA
    rw [if_pos (by omega), if_neg (by omega), b2o _ (by omega) (by omega), show x + 1 + 16 + (1468 + k - 1468) = x + (17 + k) by omega, hr _ (by omega)]
  have same : ∀ k, k < 1468 → ¬ k = 4 → (k < 6 ∨ 22 ≤ k) → b4 k = gI h 68 k := by
    intro k k1 k4 hk
    rw [b4o k k1 (by omega), b2o k k4 hk]
  have e00 : ix (F.2.2.2.2.2 m 0) = pk m := by rw [j1]; exact ix_nI (by omega)
  refine ⟨rI h 68 b4, by rw [b4o 4 (by omega) (by omega), b24], ?_, ⟨sm_rI (Or.inl ⟨by decide, by decide⟩), Lb _, fun k hk => by rw [gI_rI' _ _ _ _ (by decide)], fun k hk => by rw [gI_rIs]; exact same k (by omega) (by omega) (by omega)⟩⟩
  unfold MFS MTh
  rw [gI_rIs]
  refine ⟨⟨t0, ?_, fun p hp => ?_, fun p hp => ?_, fun p hp => ?_, ?_, ?_, fun _ => ?_, fun _ k hk => b4e k hk⟩, fun p hp => ?_, fun p hp => ?_, fun p hp => ?_, ?_, ?_, fun k hk j hj => ?_⟩
  · rw [same 0 (by omega) (by omega) (by omega)]; exact t1
  · have hp' : p < F.1.1 := hp
    rw [same _ (by omega) (by omega) (by omega)]; exact t2 p hp
  · show b4 (9 + p) = nI (if p < ix (F.2.2.2.2.2 m 0) then ix (F.2.2.2.2.2 m (4 + p)) else F.2.2.2.1.1 p) ∧ (if p < ix (F.2.2.2.2.2 m 0) then ix (F.2.2.2.2.2 m (4 + p)) else F.2.2.2.1.1 p) ≤ 8
    rw [e00]
    obtain ⟨y, y1, y2, y3⟩ := j6 p hp
    have eb : b2 (9 + p) = nI y := by
      rw [← y2, show 9 + p = 6 + (3 + p) by omega, b2i _ (by omega), show 1 + (3 + p) = 4 + p by omega]
    by_cases c : p < pk m
    · rw [if_pos c, b4o _ (by omega) (by omega), eb, y2, ix_nI (by omega)]
      exact ⟨rfl, y1⟩
    · rw [if_neg c]
      by_cases c' : p < F.1.1
      · have e3 : nI (F.2.2.2.1.1 p) = nI (F.2.2.1 p) := i3 m hm.symm p (by omega) c'
        rw [b4i p (by omega) c', b2o _ (by omega) (by omega), c4 p c', e3]
        exact ⟨rfl, (t3 p hp).2⟩
      · rw [b4o _ (by omega) (by omega), eb, y3 (by omega), o3 p hp (by omega)]
        exact ⟨rfl, by omega⟩
  · obtain ⟨y, y1, y2⟩ := j7 p hp
    show b4 (13 + p) = nI (ix (F.2.2.2.2.2 m (8 + p))) ∧ ix (F.2.2.2.2.2 m (8 + p)) ≤ 9
    rw [b4o _ (by omega) (by omega), show 13 + p = 6 + (7 + p) by omega, b2i _ (by omega), show 1 + (7 + p) = 8 + p by omega, y2, ix_nI (by omega)]
    exact ⟨rfl, y1⟩
  · show b4 6 = nI (ix (F.2.2.2.2.2 m 1)) ∧ ix (F.2.2.2.2.2 m 1) ≤ 9999
    rw [b4o _ (by omega) (by omega), b2i 0 (by omega), eH, ix_nI (by omega)]
    exact ⟨rfl, bH⟩
  · show b4 7 = nI (ix (F.2.2.2.2.2 m 2)) ∧ ix (F.2.2.2.2.2 m 2) ≤ 30840
    rw [b4o _ (by omega) (by omega), b2i 1 (by omega), eX, ix_nI (by omega)]
    exact ⟨rfl, bX⟩
  · show b4 8 = nI (ix (F.2.2.2.2.2 m 3)) ∧ ix (F.2.2.2.2.2 m 3) ≤ 30
    rw [b4o _ (by omega) (by omega), b2i 2 (by omega), ew, ix_nI (by omega)]
    exact ⟨rfl, bw⟩
  · rw [same _ (by omega) (by omega) (by omega)]; exact c2 p hp
  · rw [same _ (by omega) (by omega) (by omega)]; exact c3 p hp
  · have hp' : p < F.1.1 := hp
    rw [same _ (by omega) (by omega) (by omega)]; exact c4 p hp
  · show m ≤ 30; omega
  · rw [b4o 4 (by omega) (by omega), b24]; rfl
  · have hk' : k < m := hk
    rw [same _ (by omega) (by omega) (by omega)]; exact r3 k (by omega) j hj
theorem A_undo {c : Nat} {h : MH} (I : INV c h) (d : Nat) : AGI c (F_X10_undo (d + 2)) (F_X11_undo (d + 2)) h := by
  have L := I.1
  refine API_F I (fun F dt ds cf ok rl => ?_)
  have r4 : gI h 17 2 = nI F.2.2.2.2.1 := by
    obtain ⟨_, _, _, _, r4, _⟩ := cf.2.2.2
    exact r4
  have h30 := RC_30 cf.2.2.2
  by_cases c0 : F.2.2.2.2.1 = 0
  · refine ⟨-1, F, ⟨h, ?_, cf, CFr_refl L⟩, fun k1 L1 mf rm hw => ⟨k1, ?_, mf, MFr_refl L1⟩, ok, Nat.le_refl _⟩
    · rw [S_X10_undo L (d + 1), S_X6_takeBack L d, r4, c0, if_pos (show nI 0 = 0 from rfl), cI_some]
    · rw [S_X11_undo L1 (d + 1), mf.2.2.2.2.2.1, c0, if_pos (show nI 0 = 0 from rfl)]
  · obtain ⟨m, hm⟩ : ∃ m, F.2.2.2.2.1 = m + 1 := ⟨F.2.2.2.2.1 - 1, by omega⟩
    obtain ⟨h1, e1, cf', fr⟩ := c_takeBack L d cf ok hm
    exact ⟨nI m, Fu F m, ⟨h1, by rw [S_X10_undo L (d + 1), e1, cI_some], cf', fr⟩, fun k1 L1 mf rm hw => m_undo L1 (d + 1) mf ok hm, Fu_ok cf.1.1 ok hm, Nat.le_refl _⟩
