--deps:19.lay 21.facts 22.00.names 22.01.eq 22.02.eq 22.03.eq 22.04.eq 22.05.eq 22.06.eq 22.07.eq 22.08.eq 22.09.eq 22.10.eq 22.11.eq 22.12.eq 22.13.eq 22.14.eq 22.15.eq 22.16.eq 22.17.eq 22.18.eq 22.19.eq 22.20.eq 22.21.eq 22.22.eq 22.23.eq 23.num 24.town 25.evc 26.evm 27.law 28.says 29.inv 30.api1 31.copy 32.api2 33.api3 34.api4 35.api5 36.deeds 37.hours 38.mdeeds 39.mhours 40.hist 41.full 42.acts 43.acts2 44.played 45.undo
/-! WHAT COMES, WHO IS FREE -/
set_option linter.unusedSectionVars false
theorem INV_67 {c : Nat} {h h' : MH} (s : sm (67 :: 68 :: SCR) h h') (L : lay h') (e68 : gI h' 68 = gI h 68) (e67 : ∀ k, ¬ k = 24 → gI h' 67 k = gI h 67 k) (I : INV c h) : INV c h' := by
  obtain ⟨_, ⟨n, W, P, SN, H, X, wr, tn, N, K⟩, M, R⟩ := I
  have g : ∀ a, ¬ a ∈ 67 :: 68 :: SCR → a < 84 → gI h' a = gI h a := fun a h1 h2 => sm_gI s h1 h2
  refine ⟨L, ⟨n, W, P, SN, H, X, wr, tn, ⟨BOR_eq (fun j hj => ?_) e68 (sm_gR s (Or.inl (by decide))) (sm_gR s (Or.inl (by decide))) N.1, ?_⟩, KEPT_z s (by decide) K⟩, ?_, ROOM_sm s R⟩
  · refine g _ ?_ ?_ <;> (revert j; decide)
  · rw [sm_gR s (a := 23) (Or.inl (by decide))]
    exact fun t ht => txtR_sm s (by decide) (N.2 t ht)
  · unfold MISC
    rw [g 50 (by decide) (by decide), g 51 (by decide) (by decide), g 71 (by decide) (by decide), g 55 (by decide) (by decide), e67 4 (by decide), e67 5 (by decide), e67 6 (by decide), e67 23 (by decide)]
    exact M
theorem CPY_CT {h h' : MH} {q o n : Nat} {W : Nat → Nat} {s : TS} (C : CPY h h' q o) (t : CT h o n W s) : CT h' q n W s := by
  obtain ⟨-, -, -, ⟨c0, c5, c6, c8⟩, c1, c2, -, c4, ce⟩ := C
  obtain ⟨t0, t1, t2, t3, t4, t5, t6, t7, t8⟩ := t
  exact ⟨t0, by rw [c0]; exact t1, fun p hp => by rw [c1 p (by omega)]; exact t2 p hp, fun p hp => by rw [c2 p hp]; exact t3 p hp, fun p hp => by rw [c4 p hp]; exact t4 p hp, by rw [c5]; exact t5, by rw [c6]; exact t6, by rw [c8]; exact t7, fun k hk => by rw [ce k hk]; exact t8 k hk⟩
theorem NOW_CT {h : MH} {n : Nat} {W P SN : Nat → Nat} {H X wr tn : Nat} (N : NOW h n W P SN H X wr tn) : CT h 10 n W (P, SN, H, X, wr, gI h 15) := by
  obtain ⟨F, cf, -, -, e1, e2⟩ := NOW_F N
  have := cf.1
  rw [e1, e2] at this
  exact this
theorem NOW_MQ {h : MH} {n : Nat} {W P SN : Nat → Nat} {H X wr tn : Nat} (N : NOW h n W P SN H X wr tn) : MTh true h n W (P, SN, H, X, wr, gI h 15) := by
  obtain ⟨F, -, mf, -, e1, e2⟩ := NOW_F N
  have := mf.1
  rw [e1, e2] at this
  exact this
theorem MTa_f {a : Nat → Int32} {n : Nat} {W : Nat → Nat} {s : TS} (t : MTa true a n W s) : MTa false a n W s := by
  obtain ⟨t0, t1, t2, t3, t4, t5, t6, t7, t8⟩ := t
  exact ⟨t0, t1, t2, t3, t4, t5, t6, fun q => (by cases q), fun q => (by cases q)⟩
/-- the trial laid as the town is -/
theorem c_trial {h : MH} (L : lay h) (d : Nat) {n : Nat} {W : Nat → Nat} {s : TS} (t : CT h 10 n W s) {dt ds : Option Den} (rl : rlC h (gR h 10 9) dt ds) : ∃ h', F_X9_copyFrom (d + 1) 43 10 h = some (.int 0, h') ∧ CT h' 43 n W s ∧ rlC h' (gR h' 43 9) dt ds ∧ sm SCR h h' ∧ lay h' ∧ (∀ p, p < 4 → gI h' 46 p = gI h 13 p) := by
  obtain ⟨h', e, C⟩ := c_copyFrom L d tAt43 tAt10 (by decide)
  have s' := CPY_sm C
  refine ⟨h', e, CPY_CT C t, ?_, s', lay_F e L rfl, C.2.2.2.2.2.2.1⟩
  rw [C.2.1.2.2]
  exact rlC_sm s' rl
noncomputable def foS (n : Nat) (W : Nat → Nat) (dt ds : Option Den) : Nat → TS → TS
  | 0, s => s
  | r + 1, s => if s.2.2.1 < 9999 then foS n W dt ds r (passS n W dt ds s) else s
theorem foS_end {n : Nat} {W : Nat → Nat} {dt ds : Option Den} {s : TS} (h : ¬ s.2.2.1 < 9999) : ∀ r, foS n W dt ds r s = s := by
  intro r
  cases r with
  | zero => rfl
  | succ r => rw [foS, if_neg h]
theorem c_fore {n : Nat} {W : Nat → Nat} {dt ds : Option Den} (d : Nat) {m p : Nat} (hm : m ≤ 60) (hp : p < 4) : ∀ (r i : Nat) (s : TS) (h : MH), i + r = m → lay h → CT h 43 n W s → rlC h (gR h 43 9) dt ds → ∃ h', G_X10_foretold_21 (d + 5) (nI m) (nI p) (nI i) h = some (.int (nI ((foS n W dt ds r s).1 p)), h') ∧ CF 43 h h' := by
  intro r
  have fin : ∀ (l3 : Int32) (s : TS) (h : MH), lay h → CT h 43 n W s → ∃ h', G_X10_foretold_35 (d + 5) (nI m) (nI p) l3 h = some (.int (nI (s.1 p)), h') ∧ CF 43 h h' := by
    intro l3 s h L t
    rw [S_X10_foretold_35 L (d + 5), ck_pos (ib_nI hp (by omega)), ix_nI (by omega), show gI h 45 p = nI (s.1 p) from (t.2.2.2.1 p hp).1]
    exact ⟨h, rfl, CF_refl L⟩
  induction r with
  | zero =>
    intro i s h hi L t rl
    rw [S_X10_foretold_21 L (d + 5), if_neg (nI_nlt (by omega) (by omega))]
    exact fin _ s h L t
  | succ r ih =>
    intro i s h hi L t rl
    have tH : gI h 43 5 = nI s.2.2.1 ∧ s.2.2.1 ≤ 9999 := t.2.2.2.2.2.1
    rw [S_X10_foretold_21 L (d + 5), if_pos (nI_lt (by omega) (by omega)), tH.1, foS]
    by_cases c : s.2.2.1 < 9999
    · rw [if_pos ((nIl (by omega) (by omega)).mpr c), if_pos c]
      obtain ⟨h1, e1, t1, f1⟩ := c_passHour L d tAt43 t rl c
      obtain ⟨h2, e2, f2⟩ := ih (i + 1) _ h1 (by omega) f1.2.2 t1 (CF_rl f1 rl)
      rw [e1, cI_some, nI_1, e2]
      exact ⟨h2, rfl, CF_trans f1 f2⟩
    · rw [if_neg (fun q => c ((nIl (by omega) (by omega)).mp q)), if_neg c]
      exact fin _ s h L t
theorem m_fore {n : Nat} {W : Nat → Nat} {dt ds : Option Den} (d : Nat) {m p : Nat} (hm : m ≤ 60) (hp : p < 4) : ∀ (r i : Nat) (s : TS) (h : MH), i + r = m → lay h → MTh false h n W s → gI h 67 23 = 0 → rlM h (gI h 68 3) dt ds → ∃ h', G_X11_foretold_31 (d + 10) (nI m) (nI p) (nI i) h = G_X11_foretold_53 (d + 10) (nI m) (nI p) (nI ((foS n W dt ds r s).1 p)) 6 h' ∧ MF false h h' := by
  intro r
  induction r with
  | zero =>
    intro i s h hi L t hw rl
    rw [S_X11_foretold_31 L (d + 10), if_neg (nI_nlt (by omega) (by omega)), nIa, ck_pos (ib_nI (by omega) (by omega)), ix_nI (by omega), lt_def, (t.2.2.2.1 p hp).1]
    exact ⟨h, rfl, MF_refl L⟩
  | succ r ih =>
    intro i s h hi L t hw rl
    have tH := t.2.2.2.2.2.1
    rw [S_X11_foretold_31 L (d + 10), if_pos (nI_lt (by omega) (by omega)), tH.1]
    by_cases c : s.2.2.1 < 9999
    · rw [if_pos ((nIl (by omega) (by omega)).mpr c), foS, if_pos c]
      obtain ⟨h1, e1, t1, f1, g1⟩ := m_pass L d t hw rl c
      obtain ⟨h2, e2, f2⟩ := ih (i + 1) _ h1 (by omega) f1.2.1 t1 (by rw [f1.2.2.1 23 (by decide)]; exact hw) (MF_rl f1 rl)
      rw [e1, cV_some, S_X11_foretold_42 f1.2.1 (d + 10), nI_1, e2]
      exact ⟨h2, rfl, MF_trans f1 f2⟩
    · rw [if_neg (fun q => c ((nIl (by omega) (by omega)).mp q)), S_X11_foretold_42 L (d + 10), nI_1]
      obtain ⟨h2, e2, f2⟩ := ih (i + 1) s h (by omega) L t hw rl
      rw [e2, foS_end c, foS_end c]
      exact ⟨h2, rfl, f2⟩
def mixF (f g : Nat → Int32) (i : Nat) : Nat → Int32 := fun k => if 6 ≤ k ∧ k < 6 + i then f k else g k
theorem mixF_0 (f g : Nat → Int32) : mixF f g 0 = g := by
  funext k
  unfold mixF
  rw [if_neg (by omega)]
theorem mixF_s (f g : Nat → Int32) (i : Nat) : va_up (mixF f g i) (6 + i) (f (6 + i)) = mixF f g (i + 1) := by
  funext k
  by_cases e : k = 6 + i
  · subst e
    rw [up_s]
    unfold mixF
    rw [if_pos (by omega)]
  · rw [up_o _ _ e]
    unfold mixF
    by_cases c : 6 ≤ k ∧ k < 6 + i
    · rw [if_pos c, if_pos (by omega)]
    · rw [if_neg c, if_neg (by omega)]
theorem A_foretold {c : Nat} {h : MH} (I : INV c h) (d : Nat) (a b : Int32) : AGI c (F_X10_foretold (d + 11) a b) (F_X11_foretold (d + 11) a b) h := by
  have L := I.1
  obtain ⟨_, ⟨n, W, P, SN, H, X, wr, tn, N, K⟩, M, R⟩ := id I
  have t := NOW_CT N
  have hn := t.1
  by_cases ha : ¬ (1 ≤ a ∧ a ≤ 60)
  · refine ⟨-1, h, h, ?_, ?_, I⟩
    · rw [S_X10_foretold L (d + 10), c_within L, cI_some, bI_neg ha, if_pos rfl]
    · rw [S_X11_foretold L (d + 10), m_isIn L, cI_some, bI_neg ha, if_pos rfl]
  replace ha := Classical.not_not.mp ha
  rcases ib_cases (a := b) (N := n) (by omega) with ⟨e, -⟩ | ⟨p, hp, rfl, e⟩
  · refine ⟨-1, h, h, ?_, ?_, I⟩
    · rw [S_X10_foretold L (d + 10), c_within L, cI_some, bI_pos ha, if_neg i10, c_has L (d + 8) tAt10 (NOW_t N), cI_some, e, if_pos rfl]
    · rw [S_X11_foretold L (d + 10), m_isIn L, cI_some, bI_pos ha, if_neg i10, m_isPerson L (d + 8) (NOW_m N), cI_some, e, if_pos rfl]
  obtain ⟨m, hm1, hm, rfl⟩ := arg_1 (N := 60) (by omega) ha
  obtain ⟨dt, ds, rc, rm⟩ := NOW_rl N
  obtain ⟨h1, e1, t1, rl1, s1, L1, -⟩ := c_trial L (d + 9) t rc
  obtain ⟨h2, e2, f2⟩ := c_fore (d + 5) (p := p) hm (by omega) m 0 _ h1 (by omega) L1 t1 rl1
  have s2 : sm SCR h1 h2 := sm_mono f2.1 (by decide)
  have s12 := sm_trans s1 s2
  have L2 := f2.2.2
  have I2 := INV_sm s12 L2 I
  have N2 := NOW_sm s12 N
  refine ⟨nI ((foS n W dt ds m (P, SN, H, X, wr, gI h 15)).1 p), h2, ?_⟩
  have ec : F_X10_foretold (d + 11) (nI m) (nI p) h = some (.int (nI ((foS n W dt ds m (P, SN, H, X, wr, gI h 15)).1 p)), h2) := by
    rw [S_X10_foretold L (d + 10), c_within L, cI_some, bI_pos ha, if_neg i10, c_has L (d + 8) tAt10 (NOW_t N), cI_some, e, if_neg i10, e1, cV_some]
    exact e2
  -- the reference
  have m2 := NOW_MQ N2
  have e15 : gI h2 15 = gI h 15 := sm_gI s12 (by decide) (by decide)
  rw [e15] at m2
  have hM : gI h2 67 23 = 1 := I2.2.2.1.2.2.2.2
  have hb : bI (ib (nI p) n) = 1 := e
  have em : F_X11_foretold (d + 11) (nI m) (nI p) h2 = G_X11_foretold_13 (d + 10) (nI m) (nI p) 6 h2 := by
    rw [S_X11_foretold L2 (d + 10), m_isIn L2, cI_some, bI_pos ha, if_neg i10, m_isPerson L2 (d + 8) (NOW_m N2), cI_some, hb, if_neg i10]
  have l1 := loop_all (n := 16) (F := fun i => G_X11_foretold_13 (d + 10) (nI m) (nI p) (nI (6 + i)) (rI h2 76 (mixF (gI h2 68) (gI h2 76) i))) (fun i hi => by
    show G_X11_foretold_13 _ _ _ _ _ = _
    rw [S_X11_foretold_13 (lay_rI L2 (by decide)) (d + 10), if_pos ((nIl (by omega) (by omega)).mpr (by omega)), ck_pos (ib_nI (by omega) (by omega)), ck_pos (ib_nI (by omega) (by omega)), ix_nI (by omega), lt_def, gI_rI' _ _ _ _ (by decide), sI_rI, mixF_s, nI_1]
    rfl)
  rw [mixF_0, rI_self] at l1
  have L3 : lay (rI h2 76 (mixF (gI h2 68) (gI h2 76) 16)) := lay_rI L2 (by decide)
  have L4 : lay (sI (rI h2 76 (mixF (gI h2 68) (gI h2 76) 16)) 67 23 0) := layI L3 (by decide)
  have s4 : sm (67 :: 68 :: SCR) h2 (sI (rI h2 76 (mixF (gI h2 68) (gI h2 76) 16)) 67 23 0) := sm_trans (sm_rI (Or.inl ⟨by decide, by decide⟩)) (sm_rI (Or.inl ⟨by decide, by decide⟩))
  have t4 : MTh false (sI (rI h2 76 (mixF (gI h2 68) (gI h2 76) 16)) 67 23 0) n W (P, SN, H, X, wr, gI h 15) := by
    unfold MTh
    rw [gI_sIo _ _ _ _ _ (by decide), gI_rI' _ _ _ _ (by decide)]
    exact MTa_f m2
  have rm2 : rlM h2 (gI h2 68 3) dt ds := rlM_sm s12 rm
  have rm4 : rlM (sI (rI h2 76 (mixF (gI h2 68) (gI h2 76) 16)) 67 23 0) (gI (sI (rI h2 76 (mixF (gI h2 68) (gI h2 76) 16)) 67 23 0) 68 3) dt ds := by
    rw [gI_sIo _ _ _ _ _ (by decide), gI_rI' _ _ _ _ (by decide)]
    exact rlM_sm' s4 (by decide) rm2
  obtain ⟨h5, e5, f5⟩ := m_fore (dt := dt) (ds := ds) d (p := p) hm (by omega) m 0 _ _ (by omega) L4 t4 (by rw [gI_sIs, up_s]) rm4
  have g76 : gI h5 76 = mixF (gI h2 68) (gI h2 76) 16 := by
    rw [sm_gI f5.1 (by decide) (by decide), gI_sIo _ _ _ _ _ (by decide), gI_rIs]
  have l2 := loop_all (n := 16) (F := fun i => G_X11_foretold_53 (d + 10) (nI m) (nI p) (nI ((foS n W dt ds m (P, SN, H, X, wr, gI h 15)).1 p)) (nI (6 + i)) (rI h5 68 (mixF (gI h5 76) (gI h5 68) i))) (fun i hi => by
    show G_X11_foretold_53 _ _ _ _ _ _ = _
    rw [S_X11_foretold_53 (lay_rI f5.2.1 (by decide)) (d + 10), if_pos ((nIl (by omega) (by omega)).mpr (by omega)), ck_pos (ib_nI (by omega) (by omega)), ck_pos (ib_nI (by omega) (by omega)), ix_nI (by omega), lt_def, gI_rI' _ _ _ _ (by decide), sI_rI, mixF_s, nI_1]
    rfl)
  rw [mixF_0, rI_self] at l2
  have L6 : lay (rI h5 68 (mixF (gI h5 76) (gI h5 68) 16)) := lay_rI f5.2.1 (by decide)
  refine ⟨sI (rI h5 68 (mixF (gI h5 76) (gI h5 68) 16)) 67 23 1, ec, ?_, ?_⟩
  · rw [em]
    refine (show G_X11_foretold_13 (d + 10) (nI m) (nI p) 6 h2 = _ from l1).trans ?_
    rw [S_X11_foretold_13 L3 (d + 10), if_neg (by decide), lt_def]
    refine (show G_X11_foretold_31 (d + 10) (nI m) (nI p) 0 _ = _ from e5).trans ?_
    refine (show G_X11_foretold_53 (d + 10) (nI m) (nI p) _ 6 h5 = _ from l2).trans ?_
    rw [S_X11_foretold_53 L6 (d + 10), if_neg (by decide), lt_def]
  · refine INV_67 (h := h2) ?_ (layI L6 (by decide)) ?_ ?_ I2
    · refine sm_trans s4 (sm_trans (sm_mono f5.1 (by decide)) (sm_trans (sm_rI (Or.inl ⟨by decide, by decide⟩)) (sm_rI (Or.inl ⟨by decide, by decide⟩))))
    · rw [gI_sIo _ _ _ _ _ (by decide), gI_rIs, g76]
      funext k
      unfold mixF
      by_cases q : 6 ≤ k ∧ k < 6 + 16
      · rw [if_pos q, if_pos q]
      · have hk : k < 6 ∨ 22 ≤ k ∧ (k < 1468 ∨ false = false) := by
          by_cases q6 : k < 6
          · exact Or.inl q6
          · exact Or.inr ⟨by omega, Or.inr rfl⟩
        rw [if_neg q, f5.2.2.2 k hk, gI_sIo _ _ _ _ _ (by decide), gI_rI' _ _ _ _ (by decide)]
    · intro k hk
      rw [gI_sIs, gI_rI' _ _ _ _ (by decide)]
      by_cases q : k = 23
      · subst q
        rw [up_s, hM]
      · rw [up_o _ _ q, f5.2.2.1 k hk, gI_sIs, up_o _ _ q, gI_rI' _ _ _ _ (by decide)]
theorem m_walk68 {h : MH} (L : lay h) (d : Nat) {n : Nat} {W : Nat → Nat} {s : TS} (t : MTh true h n W s) {dt ds : Option Den} (rl : rlM h (gI h 68 3) dt ds) {p : Nat} (hp : p < n) (a : Int32) : ∃ h', F_X11_canWalk (d + 10) (nI p) a h = some (.int (oz (goS n W dt s p (tb a))), h') ∧ gI h' 68 = gI h 68 ∧ gI h' 67 = gI h 67 ∧ sm mZ h h' ∧ lay h' := by
  have tf : MTh false h n W s := MTa_f t
  obtain ⟨h1, e1, t1, f1, g1⟩ := m_canWalk L d t rl hp a
  obtain ⟨h2, e2, t2, f2, g2⟩ := m_canWalk L d tf rl hp a
  obtain rfl : h1 = h2 := by
    rw [e1] at e2
    exact congrArg (fun z => z.2) (Option.some.inj e2)
  refine ⟨h1, e1, ?_, g1, f1.1, f1.2.1⟩
  funext k
  by_cases q : k < 6 ∨ 22 ≤ k
  · exact f2.2.2.2 k (by
      rcases q with q | q
      · exact Or.inl q
      · exact Or.inr ⟨q, Or.inr rfl⟩)
  · by_cases q6 : k = 6
    · subst q6; rw [t1.2.2.2.2.2.1.1, t.2.2.2.2.2.1.1]
    · by_cases q7 : k = 7
      · subst q7; rw [t1.2.2.2.2.2.2.1.1, t.2.2.2.2.2.2.1.1]
      · by_cases q8 : k = 8
        · subst q8; rw [(t1.2.2.2.2.2.2.2.1 rfl).1, (t.2.2.2.2.2.2.2.1 rfl).1]
        · by_cases q13 : k < 13
          · rw [show k = 9 + (k - 9) by omega, (t1.2.2.2.1 (k - 9) (by omega)).1, (t.2.2.2.1 (k - 9) (by omega)).1]
          · rw [show k = 13 + (k - 13) by omega, (t1.2.2.2.2.1 (k - 13) (by omega)).1, (t.2.2.2.2.1 (k - 13) (by omega)).1]
theorem A_free {c : Nat} {h : MH} (I : INV c h) (d : Nat) (a : Int32) : AGI c (F_X10_free (d + 11) a) (F_X11_free (d + 11) a) h := by
  have L := I.1
  obtain ⟨_, ⟨n, W, P, SN, H, X, wr, tn, N, K⟩, M, R⟩ := id I
  have t := NOW_CT N
  have hn := t.1
  rcases ib_cases (a := a) (N := n) (by omega) with ⟨e, -⟩ | ⟨p, hp, rfl, e⟩
  · refine ⟨-1, h, h, ?_, ?_, I⟩
    · rw [S_X10_free L (d + 10), c_has L (d + 8) tAt10 (NOW_t N), cI_some, e, if_pos rfl]
    · rw [S_X11_free L (d + 10), m_isPerson L (d + 8) (NOW_m N), cI_some, e, if_pos rfl]
  obtain ⟨dt, ds, rc, rm⟩ := NOW_rl N
  generalize hs : ((P, SN, H, X, wr, gI h 15) : TS) = s at t
  obtain ⟨h1, e1, t1, rl1, s1, L1, -⟩ := c_trial L (d + 9) t rc
  obtain ⟨h2, e2, t2, f2⟩ := c_go L1 (d + 5) tAt43 t1 rl1 hp 0
  have s2 : sm SCR h h2 := sm_trans s1 (sm_mono f2.1 (by decide))
  have N2 := NOW_sm s2 N
  have tt2 := NOW_CT N2
  have e15 : gI h2 15 = gI h 15 := sm_gI s2 (by decide) (by decide)
  rw [e15, hs] at tt2
  have rc2 : rlC h2 (gR h2 10 9) dt ds := by rw [sm_gR s2 (Or.inl (by decide))]; exact rlC_sm s2 rc
  obtain ⟨h3, e3, t3, rl3, s3, L3, -⟩ := c_trial f2.2.2 (d + 9) tt2 rc2
  obtain ⟨h4, e4, t4, f4⟩ := c_go L3 (d + 5) tAt43 t3 rl3 hp 1
  have s4 : sm SCR h h4 := sm_trans s2 (sm_trans s3 (sm_mono f4.1 (by decide)))
  have L4 := f4.2.2
  have I4 := INV_sm s4 L4 I
  have N4 := NOW_sm s4 N
  have m4 := NOW_MQ N4
  have e15' : gI h4 15 = gI h 15 := sm_gI s4 (by decide) (by decide)
  rw [e15', hs] at m4
  obtain ⟨h5, e5, a5, b5, s5, L5⟩ := m_walk68 L4 d m4 (rlM_sm s4 rm) hp 0
  have m5 : MTh true h5 n W s := by unfold MTh; rw [a5]; exact m4
  have rm5 : rlM h5 (gI h5 68 3) dt ds := by rw [a5]; exact rlM_sm' s5 (by decide) (rlM_sm s4 rm)
  obtain ⟨h6, e6, a6, b6, s6, L6⟩ := m_walk68 L5 d m5 rm5 hp 1
  have I6 : INV c h6 := INV_67 (h := h4) (sm_mono (sm_trans s5 s6) (by decide)) L6 (a6.trans a5) (fun k _ => by rw [b6, b5]) I4
  have hb : bI (ib (nI p) n) = 1 := e
  refine ⟨(if oz (goS n W dt s p (tb 0)) = 0 then 0 else 1) + (if oz (goS n W dt s p (tb 1)) = 0 then 0 else 2), h4, h6, ?_, ?_, I6⟩
  · rw [S_X10_free L (d + 10), c_has L (d + 8) tAt10 (NOW_t N), cI_some, hb, if_neg i10, e1, cV_some, e2, cI_some]
    have fin : ∀ s0 : Int32, G_X10_free_23 (d + 10) (nI p) s0 h2 = some (.int (s0 + (if oz (goS n W dt s p (tb 1)) = 0 then 0 else 2)), h4) := by
      intro s0
      rw [S_X10_free_23 f2.2.2 (d + 10), e3, cV_some, e4, cI_some]
      by_cases q : oz (goS n W dt s p (tb 1)) = 0
      · rw [if_pos q, if_pos q, Int32.add_zero]
      · rw [if_neg q, if_neg q]
    by_cases q : oz (goS n W dt s p (tb 0)) = 0
    · rw [if_pos q, if_pos q, fin]
    · rw [if_neg q, if_neg q, fin]
  · rw [S_X11_free L4 (d + 10), m_isPerson L4 (d + 8) (NOW_m N4), cI_some, hb, if_neg i10, e5, cI_some]
    have fin : ∀ s0 : Int32, G_X11_free_12 (d + 10) (nI p) s0 h5 = some (.int (s0 + (if oz (goS n W dt s p (tb 1)) = 0 then 0 else 2)), h6) := by
      intro s0
      rw [S_X11_free_12 L5 (d + 10), e6, cI_some]
      by_cases q : oz (goS n W dt s p (tb 1)) = 0
      · rw [if_pos q, if_pos q]
      · rw [if_neg q, if_neg q]
    by_cases q : oz (goS n W dt s p (tb 0)) = 0
    · rw [if_pos q, if_pos q, fin]
    · rw [if_neg q, if_neg q, fin]
