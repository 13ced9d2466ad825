--deps:19.lay 21.facts 22.00.names 22.01.eq 22.02.eq 22.03.eq 22.04.eq 22.05.eq 22.06.eq 22.07.eq 22.08.eq 22.09.eq 22.10.eq 22.11.eq 22.12.eq 22.13.eq 22.14.eq 22.15.eq 22.16.eq 22.17.eq 22.18.eq 22.19.eq 22.20.eq 22.21.eq 22.22.eq 22.23.eq 23.num 24.town 25.evc 26.evm 27.law 28.says 29.inv 30.api1 31.copy 32.api2 33.api3 34.api4 35.api5 36.deeds 37.hours 38.mdeeds 39.mhours 40.hist 41.full 42.acts 43.acts2 44.played
/-! TAKING BACK; what comes; who is free -/
set_option linter.unusedSectionVars false
def undT (F : FS) (m : Nat) : TS := ((fun p => if p < ix (F.2.2.2.2.2 m 0) then ix (F.2.2.2.2.2 m (4 + p)) else F.2.2.2.1.1 p), (fun c => ix (F.2.2.2.2.2 m (8 + c))), ix (F.2.2.2.2.2 m 1), ix (F.2.2.2.2.2 m 2), ix (F.2.2.2.2.2 m 3), fun k => F.2.2.2.2.2 m (17 + k))
def Fu (F : FS) (m : Nat) : FS := (F.1, F.2.1, F.2.2.1, undT F m, (m, F.2.2.2.2.2))
theorem Fu_ok {F : FS} (hn : F.1.1 ≤ 4) (ok : OKF F) {m : Nat} (hm : F.2.2.2.2.1 = m + 1) : OKF (Fu F m) := by
  obtain ⟨o1, o2, o3, o4, o5, ⟨pk, i1, i2, i3, i4⟩⟩ := ok
  obtain ⟨j1, j2, -, -, -, j6, -⟩ := i1 m (by omega)
  have e0 : ix (F.2.2.2.2.2 m 0) = pk m := by rw [j1]; exact ix_nI (by omega)
  refine ⟨o1, o2, fun p hp hk => ?_, o4, o5, pk, fun k hk => ?_, fun k hk => ?_, fun k hk p p1 p2 => ?_, i4⟩
  · have hk' : F.1.1 ≤ p := hk
    show (if p < ix (F.2.2.2.2.2 m 0) then ix (F.2.2.2.2.2 m (4 + p)) else F.2.2.2.1.1 p) = 0
    rw [e0, if_neg (by omega)]; exact o3 p hp hk
  · have hk' : k < m := hk
    exact i1 k (by omega)
  · have hk' : k + 1 < m := hk
    exact i2 k (by omega)
  · have hk' : k + 1 = m := hk
    show nI (if p < ix (F.2.2.2.2.2 m 0) then ix (F.2.2.2.2.2 m (4 + p)) else F.2.2.2.1.1 p) = nI (F.2.2.1 p)
    rw [e0]
    by_cases c : p < pk m
    · rw [if_pos c]
      have := i2 k (by omega) p p1 (by rw [hk']; exact c)
      rw [hk'] at this
      obtain ⟨x, x1, x2, -⟩ := j6 p (by omega)
      refine Eq.trans ?_ this
      rw [x2, ix_nI (by omega)]
    · rw [if_neg c]
      exact i3 m hm.symm p (by omega) p2
theorem ix_n {v : Int32} {c : Nat} (h : v = nI c) (hc : c < 2 ^ 31) : nI (ix v) = v := by rw [h, ix_nI hc]
theorem c_takeBack {h : MH} (L : lay h) (d : Nat) {F : FS} (c : CFS h F) (ok : OKF F) {m : Nat} (hm : F.2.2.2.2.1 = m + 1) : ∃ h', F_X6_takeBack (d + 1) h = some (.int (nI m), h') ∧ CFS h' (Fu F m) ∧ CFr h h' := by
  obtain ⟨⟨t0, t1, t2, t3, t4, t5, t6, t7, t8⟩, c2, c3, ⟨fst, r1, r2, r3, r4, r5⟩⟩ := c
  obtain ⟨o1, o2, o3, o4, o5, ⟨pk, i1, -, -, -⟩⟩ := ok
  obtain ⟨j1, j2, ⟨vH, bH, eH⟩, ⟨vX, bX, eX⟩, ⟨vw, bw, ew⟩, j6, j7⟩ := i1 m (by omega)
  have hx : (fst + m) % 31 < 31 := Nat.mod_lt _ (by decide)
  have hr : ∀ j, j < 47 → gI h 18 ((fst + m) % 31 * 47 + j) = F.2.2.2.2.2 m j := r5 m (by omega)
  have ey : nI (m + 1) - 1 = nI m := nI_pred m
  have e00 : ((0 : Int32) < 0) = False := eq_false (by decide)
  have e90 : ((9 : Int32) < 0) = False := eq_false (by decide)
  have e30 : ((30 : Int32) < 0) = False := eq_false (by decide)
  rw [S_X6_takeBack L d, r4, hm, if_neg (nI_ne0 (by omega) (by omega)), ey, lt_def, gI_sIs, up_s, up_o _ _ (by decide), r3, nI_add, nIr (by omega) (by omega) (by omega), nIn, lt_def]
  have hx1 : (fst + m) % 31 * 47 + 47 ≤ 1457 := by omega
  generalize (fst + m) % 31 * 47 = x at hr hx1 ⊢
  have h0 : gI h 18 x = nI (pk m) := (hr 0 (by omega)).trans j1
  have h1 : gI h 18 (x + 1) = nI vH := (hr 1 (by omega)).trans eH
  have h2 : gI h 18 (x + 2) = nI vX := (hr 2 (by omega)).trans eX
  have h3 : gI h 18 (x + 3) = nI vw := (hr 3 (by omega)).trans ew
  simp (disch := omega) only [nI_ltI, nI_leI, nI_eq, nIl, nIL, nIe, nIz, ib_nIi, ib_L, ix_L, ck_pos, if_pos, if_neg, lt_def, ck_true, true_and, and_true, true_or, or_true, ix_nI, nI_1, nIa, nIb, nI_add, cI_some, cR_some, cL_some, cV_some, if_true, if_false, Bool.false_eq_true, ne_eq, not_true_eq_false, not_false_eq_true, e00, e90, e30, gI_sIo, gI_rI', h0, h1, h2, h3]
  sorry
