--deps:19.lay 21.facts 22.00.names 22.01.eq 22.02.eq 22.03.eq 22.04.eq 22.05.eq 22.06.eq 22.07.eq 22.08.eq 22.09.eq 22.10.eq 22.11.eq 22.12.eq 22.13.eq 22.14.eq 22.15.eq 22.16.eq 22.17.eq 22.18.eq 22.19.eq 22.20.eq 22.21.eq 22.22.eq 22.23.eq 23.num 24.town 25.evc 26.evm 27.law 28.says 29.inv 30.api1 31.copy 32.api2 33.api3 34.api4 35.api5 36.deeds 37.hours 38.mdeeds 39.mhours 40.hist 41.full 42.acts 43.acts2 44.played 45.undo 46.trial 47.sets 48.sets2 66.script 67.law 71.yard 72.yard2 73.gx 74.gx2 75.gx3 76.reader 77.read2 78.read3 79.mtok 80.mpile 81.myard 82.msum 83.msum2 84.msum3 85.lexm 86.lexm2 87.lexc 88.cut 89.nums 90.keep 91.clause 92.ctext 93.mclause 94.mclause2 95.mtext 96.txtr
/-! TEXT: the call that was left -/
set_option linter.unusedSectionVars false
theorem TD_self (h : MH) : TD h (gI h 50) (gI h 52) (gI h 53) (gI h 54) = h := by
  unfold TD
  rw [rI_self, rI_self, rI_self, rI_self]
theorem c55 : ∀ q ∈ cRF, q.1 = 55 → ¬ q.2.1 = 9 ∧ ¬ q.2.1 = 10 := by decide +kernel
/-- the reader's beginning -/
theorem c_pro {h : MH} (L : lay h) (F : frs h) (W : LWF h) {by_ : Nat → Nat} {len : Nat} (hl : len ≤ 300) (e1 : gI h 50 1 = nI len) (hb : ∀ j, j < 300 → gI h 51 j = nI (by_ j) ∧ by_ j < 256) {D : Nat} (hD : 16 ≤ D) : ∃ tk ts tv te T H1, F_X4_read D h = G_X4_read_23 (D - 1) (nI 0) H1 ∧ CST h H1 tk ts tv T 0 0 0 (fun _ => 0) (fun _ => 0) (fun _ => 0) none none ∧ TOKQ by_ len tk ts tv te T ∧ gI H1 55 11 = 0 ∧ gI H1 55 12 = -1 := by
  obtain ⟨d, rfl⟩ : ∃ d, D = d + 1 := ⟨D - 1, by omega⟩
  obtain ⟨H0, eH0⟩ : ∃ H0, H0 = sI (sI (sR (sR (sI (sI h 55 5 0) 55 6 0) 55 9 0) 55 10 0) 55 11 0) 55 12 (-1) := ⟨_, rfl⟩
  have k0 : H0.1 = h.1 := by rw [eH0]; rfl
  have K0 : ∀ a, kd H0 a = kd h a := fun a => by unfold kd; rw [k0]
  have N0 : ∀ a, ln H0 a = ln h a := fun a => by unfold ln; rw [k0]
  have M0 : mN H0 = mN h := by unfold mN; rw [k0]
  have S0 : mS H0 = mS h := by unfold mS; rw [k0]
  have I0 : ∀ a, ¬ a = 55 → gI H0 a = gI h a := fun a ha => by
    rw [eH0, gI_sIe, if_neg ha, gI_sIe, if_neg ha]
    show gI (sI (sI h 55 5 0) 55 6 0) a = gI h a
    rw [gI_sIe, if_neg ha, gI_sIe, if_neg ha]
  have R0 : ∀ a, ¬ a = 55 → gR H0 a = gR h a := fun a ha => by
    have r0 : ∀ (h : MH) (b j v c : Nat), gR (sR h b j v) c = if c = b then va_up (gR h b) j v else gR h c := fun h b j v c => rfl
    rw [eH0]
    show gR (sR (sR (sI (sI h 55 5 0) 55 6 0) 55 9 0) 55 10 0) a = gR h a
    rw [r0, if_neg ha, r0, if_neg ha]
    rfl
  have R55 : gR H0 55 = va_up (va_up (gR h 55) 9 0) 10 0 := by rw [eH0]; rfl
  have I55 : gI H0 55 = va_up (va_up (va_up (va_up (gI h 55) 5 0) 6 0) 11 0) 12 (-1) := by
    rw [eH0, gI_sIe, if_pos rfl, gI_sIe, if_pos rfl]
    show va_up (va_up (gI (sI (sI h 55 5 0) 55 6 0) 55) 11 0) 12 (-1) = _
    rw [gI_sIe, if_pos rfl, gI_sIe, if_pos rfl]
  have L0 : lay H0 := by
    obtain ⟨l1, l2, l3, l4, l5⟩ := L
    refine ⟨by omega, fun a ha => (K0 a).trans (l2 a ha), fun a h1 ha => (N0 a).trans (l3 a h1 ha), fun q hq => ?_, ?_⟩
    · by_cases z : q.1 = 55
      · rw [z, R55, va_ne _ _ (c55 q hq z).2, va_ne _ _ (c55 q hq z).1, ← z]; exact l4 q hq
      · rw [R0 _ z]; exact l4 q hq
    · rw [I0 2 (by decide), I0 3 (by decide), I0 6 (by decide), I0 7 (by decide), I0 4 (by decide), I0 5 (by decide)]; exact l5
  have C0 : CQ h H0 0 := by
    refine ⟨⟨L0, fun a ha => by rw [K0]; exact F a (by omega), fun l hl4 => ?_⟩, ⟨fun a h1 h2 => ⟨K0 a, N0 a, I0 a (by omega), R0 a (by omega)⟩, fun l h1 h2 => ?_, by omega⟩, fun a ha => ⟨N0 a, fun z => I0 a (fun y => z (by rw [y]; decide)), fun z => R0 a z⟩, by omega, by omega, L.1⟩
    · rw [K0] at hl4
      have n55 : ¬ l = 55 := fun z => by
        rw [z, L.2.1 55 (by decide)] at hl4
        exact absurd hl4 (by decide)
      rw [R0 l n55, K0]
      exact W l hl4
    · rw [K0, F l h1] at h2
      cases h2
  obtain ⟨c', k', s', v', tk, ts, tv, te, T, g1, ⟨g2, g3⟩, g4, g5, g6, g7, g8⟩ := c_cut L0 hl (fun j hj => by rw [I0 51 (by decide)]; exact hb j hj) (D := d) (by omega) (c := gI H0 50) (k := gI H0 52) (s := gI H0 53) (v := gI H0 54) (by rw [I0 50 (by decide)]; exact e1)
  rw [TD_self] at g1
  have RW : RWR H0 (TD H0 c' k' s' v') := RWR_tr (RWR_tr (RWR_tr (RWR_rI H0 (by decide) _) (RWR_rI _ (by decide) _)) (RWR_rI _ (by decide) _)) (RWR_rI _ (by decide) _)
  have i55 : gI (TD H0 c' k' s' v') 55 = gI H0 55 := gI_TDo _ _ _ _ _ (by decide) (by decide) (by decide) (by decide)
  refine ⟨tk, ts, tv, te, T, TD H0 c' k' s' v', ?_, ⟨CQ_row C0 RW (lay_TD L0 _ _ _ _), ⟨⟨g2, by rw [gI_TD50]; exact g3⟩, fun i hi => by rw [gI_TD52, gI_TD53, gI_TD54]; exact g4 i hi, g5, g6⟩, ⟨by rw [i55, I55]; rfl, by rw [i55, I55]; rfl, Nat.zero_le _, by decide⟩, fun i hi => absurd hi (Nat.not_lt_zero i), ⟨?_, ?_⟩, by rw [i55, I55]; rfl, by rw [i55, I55]; rfl⟩, g7, by rw [i55, I55]; rfl, by rw [i55, I55]; rfl⟩
  · rw [S_X4_read L, lt_def, lt_def, lt_def, lt_def, lt_def, lt_def, ← eH0, g1, cV_some, Nat.add_sub_cancel]
    rfl
  · show gR (TD H0 c' k' s' v') 55 9 = 0
    rw [RW.2.1, R55]; rfl
  · show gR (TD H0 c' k' s' v') 55 10 = 0
    rw [RW.2.1, R55]; rfl
/-- what both ends have in common -/
theorem T_inv {c : Nat} {h h2 : MH} (I : INV c h) (F : frs h) (L2 : lay h2) (E : EXT h h2) {n : Nat} {W P SN : Nat → Nat} {H X wr tn tn' : Nat} (N : NOW h n W P SN H X wr tn) (K : KEPT h tn) (B : BOR h2 9 68 n W P SN H X wr tn') (T : ∀ t, t < tn' → txtR h2 (gR h2 23 t) t) (htn : tn ≤ tn') (hg : ∀ a, 26 ≤ a → a < 43 → gI h2 a = gI h a ∧ gR h2 a = gR h a) (h69 : gI h2 69 = gI h 69) (h23 : ∀ t, t < tn → gR h2 23 t = gR h 23 t) (k9 : ∀ i, i < 4 → (gR h2 23 i = 0 ∨ kd h2 (gR h2 23 i) = 9) ∧ (gR h2 40 i = 0 ∨ kd h2 (gR h2 40 i) = 9)) (M : MISC h2) (R : ROOM (c + 1) h2) : INV (c + 1) h2 := by
  obtain ⟨n1, W1, P1, SN1, H1, X1, wr1, tk, B1, b1, b2, b3⟩ := K
  refine ⟨L2, ⟨n, W, P, SN, H, X, wr, tn', ⟨B, T⟩, ⟨n1, W1, P1, SN1, H1, X1, wr1, tk, BOR_eq (fun j hj => (hg _ (by omega) (by
    have : ∀ j, j ∈ [0, 1, 2, 3, 4, 5, 6, 8, 9, 10, 11, 12, 15, 16] → j ≤ 16 := by decide
    have := this j hj
    omega)).1) h69 (hg 27 (by omega) (by omega)).2 (hg 40 (by omega) (by omega)).2 B1, by omega, fun t ht => ?_, k9⟩⟩, M, R⟩
  rw [(hg 40 (by omega) (by omega)).2, h23 t (by omega)]
  exact b2 t ht
