--deps:19.lay 21.facts 22.00.names 22.01.eq 22.02.eq 22.03.eq 22.04.eq 22.05.eq 22.06.eq 22.07.eq 22.08.eq 22.09.eq 22.10.eq 22.11.eq 22.12.eq 22.13.eq 22.14.eq 22.15.eq 22.16.eq 22.17.eq 22.18.eq 22.19.eq 22.20.eq 22.21.eq 22.22.eq 22.23.eq 23.num 24.town 25.evc 26.evm 27.law 28.says 29.inv 30.api1 31.copy 32.api2 33.api3 34.api4 35.api5 36.deeds 37.hours 38.mdeeds 39.mhours 40.hist 41.full 42.acts
/-! YEARS, TAKING BACK, PEOPLE, GOALS -/
set_option linter.unusedSectionVars false
noncomputable def yS (n : Nat) (W : Nat → Nat) (dt ds : Option Den) (_i : Nat) (s : TS) : TS := hapS n W dt ds s.2.2.2.1 (s.1, s.2.1, s.2.2.1, (s.2.2.2.1 * 601 + 467) % 30841, s.2.2.2.2)
theorem yS_P {n : Nat} {W : Nat → Nat} {dt ds : Option Den} {s : TS} {k : Nat} (hk : n ≤ k) : ∀ r, (itr (yS n W dt ds) s r).1 k = s.1 k := by
  intro r
  induction r with
  | zero => rfl
  | succ r ih =>
    rw [itr]
    unfold yS
    rw [hapS_P hk]
    exact ih
theorem A_years {c : Nat} {h : MH} (I : INV c h) (d : Nat) (a b : Int32) : AGI c (F_X10_years (d + 13) a b) (F_X11_years (d + 13) a b) h := by
  have L := I.1
  by_cases ha : ¬ (0 ≤ a ∧ a ≤ 9999)
  · refine ⟨-1, h, h, ?_, ?_, I⟩
    · rw [S_X10_years L (d + 12), c_within L, cI_some, bI_neg ha, if_pos rfl]
    · rw [S_X11_years L (d + 12), m_isIn L, cI_some, bI_neg ha, if_pos rfl]
  replace ha := Classical.not_not.mp ha
  by_cases hb : ¬ (1 ≤ b ∧ b ≤ 40)
  · refine ⟨-1, h, h, ?_, ?_, I⟩
    · rw [S_X10_years L (d + 12), c_within L, cI_some, bI_pos ha, if_neg i10, c_within L, cI_some, bI_neg hb, if_pos rfl]
    · rw [S_X11_years L (d + 12), m_isIn L, cI_some, bI_pos ha, if_neg i10, m_isIn L, cI_some, bI_neg hb, if_pos rfl]
  replace hb := Classical.not_not.mp hb
  obtain ⟨m, hm1, hm, rfl⟩ := arg_1 (N := 40) (by omega) hb
  obtain ⟨sd, hsd, rfl⟩ : ∃ k, k ≤ 9999 ∧ a = nI k := by
    obtain ⟨j, hj, rfl⟩ := nI_of (x := a) (fun q => absurd q (Int32.not_lt.mpr ha.1))
    exact ⟨j, (nIL hj (by omega)).mp ha.2, rfl⟩
  refine API_F I (fun F dt ds cf ok rl => ?_)
  have ok3 := ok.2.2.1
  obtain ⟨c1, c2, c3, c4⟩ := cf
  obtain ⟨g, e1, m1⟩ := c_mark L (d + 11) c1 c4
  have f1 : CFr h (rI h 18 g) := CFr_rI L (by decide)
  have t1 : CT (rI h 18 g) 10 F.1.1 F.1.2 F.2.2.2.1 := CT_eq (gI_rI' _ _ _ _ (by decide)) (gI_rI' _ _ _ _ (by decide)) (gI_rI' _ _ _ _ (by decide)) (gI_rI' _ _ _ _ (by decide)) (gI_rI' _ _ _ _ (by decide)) c1
  have t2 := CT_X (v := sd * 2 + 349) t1 (by omega)
  have f2 : CF 10 (rI h 18 g) (sI (rI h 18 g) 10 6 (nI (sd * 2 + 349))) := CF_sI tAt10 f1.2.2 (by decide)
  generalize hs0 : ((F.2.2.2.1.1, F.2.2.2.1.2.1, F.2.2.2.1.2.2.1, sd * 2 + 349, F.2.2.2.1.2.2.2.2) : TS) = s0 at t2
  obtain ⟨k, ⟨tk, fk⟩, ek⟩ := loop_rel (n := m) (σ := MH) (I := fun i k => CT k 10 F.1.1 F.1.2 (itr (yS F.1.1 F.1.2 dt ds) s0 i) ∧ CF 10 (rI h 18 g) k) (G := fun i k => G_X10_years_30 (d + 12) (nI sd) (nI m) (nI i) k) (s := sI (rI h 18 g) 10 6 (nI (sd * 2 + 349))) (fun i k hi ⟨ti, fi⟩ => by
    obtain ⟨k2, e2, u2, v2⟩ := c_draw fi.2.2 (d + 11) tAt10 ti
    obtain ⟨k3, e3, u3, v3⟩ := c_happen v2.2.2 (d + 6) tAt10 u2 (CF_rl v2 (CF_rl fi (CFr_rl f1 rl))) ti.2.2.2.2.2.2.1.2
    refine ⟨k3, ⟨u3, CF_trans fi (CF_trans v2 v3)⟩, ?_⟩
    show G_X10_years_30 _ _ _ _ _ = G_X10_years_30 _ _ _ _ _
    rw [S_X10_years_30 fi.2.2 (d + 12), if_pos (nI_lt hi (by omega)), e2, cI_some, e3, cV_some, nI_1]) ⟨t2, f2⟩
  have mk : MK k F.2.2.2.2 (rowN F.1.1 F.2.2.2.1) := MK_eq m1 (sm_gI fk.1 (by decide) (by decide)) (sm_gI fk.1 (by decide) (by decide))
  obtain ⟨g3, e3, r3⟩ := c_kept1 fk.2.2 (d + 11) mk
  have f3 : CFr k (rI k 17 g3) := CFr_rI fk.2.2 (by decide)
  have ct3 : CT (rI k 17 g3) 10 F.1.1 F.1.2 (itr (yS F.1.1 F.1.2 dt ds) s0 m) := CT_eq (gI_rI' _ _ _ _ (by decide)) (gI_rI' _ _ _ _ (by decide)) (gI_rI' _ _ _ _ (by decide)) (gI_rI' _ _ _ _ (by decide)) (gI_rI' _ _ _ _ (by decide)) tk
  refine ⟨nI (itr (yS F.1.1 F.1.2 dt ds) s0 m).2.2.1, Fk F (itr (yS F.1.1 F.1.2 dt ds) s0 m), ⟨rI k 17 g3, ?_, ⟨ct3, fun p hp => ?_, fun p hp => ?_, ?_⟩, CFr_trans f1 (CFr_trans (CFr_CF fk) f3)⟩, fun k1 L1 mf rm hw => ?_, ?_, Nat.le_refl _⟩
  · rw [S_X10_years L (d + 12), c_within L, cI_some, bI_pos ha, if_neg i10, c_within L, cI_some, bI_pos hb, if_neg i10, e1, cV_some, lt_def, nIn, nIb]
    refine (show G_X10_years_30 (d + 12) (nI sd) (nI m) 0 (sI (rI h 18 g) 10 6 (nI (sd * 2 + 349))) = _ from ek).trans ?_
    rw [S_X10_years_30 fk.2.2 (d + 12), if_neg (nI_nlt (Nat.le_refl _) (by omega)), e3, cI_some, ct3.2.2.2.2.2.1.1]
  · rw [gI_rI' _ _ _ _ (by decide), sm_gI fk.1 (by decide) (by decide), gI_rI' _ _ _ _ (by decide)]; exact c2 p hp
  · rw [gI_rI' _ _ _ _ (by decide), sm_gI fk.1 (by decide) (by decide), gI_rI' _ _ _ _ (by decide)]; exact c3 p hp
  · rw [gI_rIs, gI_rI' _ _ _ _ (by decide)]; exact r3
  · obtain ⟨k2, e2, F2, v2, g2⟩ := m_kept L1 (d + 11) mf
    have f3 : MF true k2 (sI k2 68 7 (nI (sd * 2 + 349))) := MF_sI v2.2.1 (by omega)
    have u3 : MTh true (sI k2 68 7 (nI (sd * 2 + 349))) F.1.1 F.1.2 s0 := by
      unfold MTh
      rw [gI_sIs, ← hs0]
      exact MTa_X F2.1 (by omega)
    obtain ⟨st, ⟨ti, fi⟩, ei⟩ := loop_rel (n := m) (σ := Option Value × MH) (I := fun i st => MTh true st.2 F.1.1 F.1.2 (itr (yS F.1.1 F.1.2 dt ds) s0 i) ∧ MF true k2 st.2) (G := fun i st => G_X11_years_25 (d + 12) (nI sd) (nI m) (nI i) st.1 st.2) (s := (none, sI k2 68 7 (nI (sd * 2 + 349)))) (fun i st hi ⟨ti, fi⟩ => by
      obtain ⟨k4, e4, u4, v4, g4⟩ := m_anew fi.2.1 (d + 11) ti
      obtain ⟨k5, e5, u5, v5⟩ := m_happens v4.2.1 (d + 1) u4 (by rw [g4, fi.2.2.1 23 (by decide), v2.2.2.1 23 (by decide)]; exact hw) (MF_rl v4 (MF_rl fi (MFr_rl v2 rm))) ti.2.2.2.2.2.2.1.2
      refine ⟨(some (.int (nI (itr (yS F.1.1 F.1.2 dt ds) s0 i).2.2.2.1)), k5), ⟨u5, MF_trans fi (MF_trans v4 v5)⟩, ?_⟩
      show G_X11_years_25 _ _ _ _ _ _ = G_X11_years_25 _ _ _ _ _ _
      rw [S_X11_years_25 fi.2.1 (d + 12), if_pos (nI_lt hi (by omega)), e4, cV_some, ti.2.2.2.2.2.2.1.1, e5, cV_some, nI_1]) ⟨u3, f3⟩
    refine ⟨st.2, ?_, MFS_town F2 ti fi, MFr_trans v2 (MFr_MF fi)⟩
    rw [S_X11_years L1 (d + 12), m_isIn L1, cI_some, bI_pos ha, if_neg i10, m_isIn L1, cI_some, bI_pos hb, if_neg i10, e2, cV_some, lt_def, nIn, nIb]
    refine (show G_X11_years_25 (d + 12) (nI sd) (nI m) 0 none (sI k2 68 7 (nI (sd * 2 + 349))) = _ from ei).trans ?_
    rw [S_X11_years_25 fi.2.1 (d + 12), if_neg (nI_nlt (Nat.le_refl _) (by omega)), ti.2.2.2.2.2.1.1]
  · refine OKF_k c1.1 (RC_30 c4) ok (CT_b c1) (fun p hp hk => ?_)
    rw [yS_P hk, ← hs0]
    exact ok3 p hp hk
/-! people -/
def Fp (F : FS) (w x : Nat) : FS := ((F.1.1 + 1, va_up F.1.2 F.1.1 w), va_up F.2.1 F.1.1 (-1), va_up F.2.2.1 F.1.1 x, (va_up F.2.2.2.1.1 F.1.1 x, F.2.2.2.1.2), F.2.2.2.2)
theorem Fp_ok {F : FS} (hn : F.1.1 < 4) (ok : OKF F) {w x : Nat} (hw1 : 1 ≤ w) (hw : w ≤ 9) (hx : x ≤ 8) : OKF (Fp F w x) := by
  obtain ⟨o1, o2, o3, o4, o5, ⟨pk, i1, i2, i3, i4⟩⟩ := ok
  refine ⟨fun p hp => ?_, fun p hp => ?_, fun p hp hk => ?_, fun p hp => ?_, fun p hp => ?_, pk, fun k hk => ?_, fun k hk p p1 p2 => ?_, fun k hk p p1 p2 => ?_, fun p hp => ?_⟩
  · show 1 ≤ va_up F.1.2 F.1.1 w p
    have hp' : p < F.1.1 + 1 := hp
    by_cases e : p = F.1.1
    · subst e; rw [up_s]; exact hw1
    · rw [up_o _ _ e]; exact o1 p (by omega)
  · show va_up F.1.2 F.1.1 w p ≤ 9
    by_cases e : p = F.1.1
    · subst e; rw [up_s]; exact hw
    · rw [up_o _ _ e]; exact o2 p hp
  · show va_up F.2.2.2.1.1 F.1.1 x p = 0
    have hk' : F.1.1 + 1 ≤ p := hk
    rw [up_o _ _ (by omega)]; exact o3 p hp (by omega)
  · show va_up F.2.1 F.1.1 (-1) p = -1 ∨ ∃ c, c ≤ 8 ∧ va_up F.2.1 F.1.1 (-1) p = nI c
    have hp' : p < F.1.1 + 1 := hp
    by_cases e : p = F.1.1
    · subst e; rw [up_s]; exact Or.inl rfl
    · rw [up_o _ _ e]; exact o4 p (by omega)
  · show va_up F.2.2.1 F.1.1 x p ≤ 8
    have hp' : p < F.1.1 + 1 := hp
    by_cases e : p = F.1.1
    · subst e; rw [up_s]; exact hx
    · rw [up_o _ _ e]; exact o5 p (by omega)
  · obtain ⟨j1, j2, j3⟩ := i1 k hk
    exact ⟨j1, by show pk k ≤ F.1.1 + 1; omega, j3⟩
  · have l := (i1 (k + 1) hk).2.1
    show F.2.2.2.2.2 (k + 1) (4 + p) = nI (va_up F.2.2.1 F.1.1 x p)
    rw [up_o _ _ (by omega)]; exact i2 k hk p p1 p2
  · show nI (va_up F.2.2.2.1.1 F.1.1 x p) = nI (va_up F.2.2.1 F.1.1 x p)
    have hp' : p < F.1.1 + 1 := p2
    by_cases e : p = F.1.1
    · subst e; rw [up_s, up_s]
    · rw [up_o _ _ e, up_o _ _ e]; exact i3 k hk p p1 (by omega)
  · show ∃ c, c ≤ 8 ∧ nI (va_up F.2.2.1 F.1.1 x p) = nI c
    have hp' : p < F.1.1 + 1 := hp
    by_cases e : p = F.1.1
    · subst e; rw [up_s]; exact ⟨x, hx, rfl⟩
    · rw [up_o _ _ e]; exact i4 p (by omega)
theorem c_settle {h : MH} (L : lay h) (d : Nat) {F : FS} (c : CFS h F) {w x : Nat} (hw : w ≤ 9) (hx : x ≤ 8) : (F.1.1 = 4 ∧ F_X9_settle (d + 1) 10 (nI w) (nI x) h = some (.int (-1), h)) ∨ (F.1.1 < 4 ∧ ∃ h', F_X9_settle (d + 1) 10 (nI w) (nI x) h = some (.int (nI F.1.1), h') ∧ CFS h' (Fp F w x) ∧ CFr h h') := by
  obtain ⟨⟨t0, t1, t2, t3, t4, t5, t6, t7, t8⟩, c2, c3, c4⟩ := c
  rw [S_X9_settle L d 10 _ _ tAt10, t1]
  by_cases c : F.1.1 < 4
  · refine Or.inr ⟨c, ?_⟩
    rw [if_pos ((nIl (by omega) (by omega)).mpr c), ck_pos (ib_nI (by omega) (by omega)), lt_def, ix_nI (by omega)]
    have g1 : gI (sI h (10 + 1) F.1.1 (nI w)) 10 0 = nI F.1.1 := by rw [gI_sIo _ _ _ _ _ (by decide)]; exact t1
    rw [g1, ck_pos (ib_nI (by omega) (by omega)), lt_def, ix_nI (by omega)]
    have g2 : gI (sI (sI h (10 + 1) F.1.1 (nI w)) (10 + 2) F.1.1 (nI x)) 10 0 = nI F.1.1 := by rw [gI_sIo _ _ _ _ _ (by decide)]; exact g1
    rw [g2, ck_pos (ib_nI (by omega) (by omega)), lt_def, ix_nI (by omega), lt_def]
    have g3 : gI (sI (sI (sI h (10 + 1) F.1.1 (nI w)) (10 + 2) F.1.1 (nI x)) (10 + 3) F.1.1 (-1)) 10 0 = nI F.1.1 := by rw [gI_sIo _ _ _ _ _ (by decide)]; exact g2
    rw [g3, gI_sIs, up_s, nI_1, nI_pred]
    have f1 : CFr h (sI h 11 F.1.1 (nI w)) := CFr_rI L (by decide)
    have f2 : CFr (sI h 11 F.1.1 (nI w)) (sI (sI h 11 F.1.1 (nI w)) 12 F.1.1 (nI x)) := CFr_rI f1.2.2 (by decide)
    have f3 : CFr (sI (sI h 11 F.1.1 (nI w)) 12 F.1.1 (nI x)) (sI (sI (sI h 11 F.1.1 (nI w)) 12 F.1.1 (nI x)) 13 F.1.1 (-1)) := CFr_rI f2.2.2 (by decide)
    have f4 : CFr (sI (sI (sI h 11 F.1.1 (nI w)) 12 F.1.1 (nI x)) 13 F.1.1 (-1)) (sI (sI (sI (sI h 11 F.1.1 (nI w)) 12 F.1.1 (nI x)) 13 F.1.1 (-1)) 10 0 (nI (F.1.1 + 1))) := CFr_rI f3.2.2 (by decide)
    refine ⟨_, rfl, ?_, CFr_trans f1 (CFr_trans f2 (CFr_trans f3 f4))⟩
    have e10 : gI (sI (sI (sI (sI h 11 F.1.1 (nI w)) 12 F.1.1 (nI x)) 13 F.1.1 (-1)) 10 0 (nI (F.1.1 + 1))) 10 = va_up (gI h 10) 0 (nI (F.1.1 + 1)) := by simp (disch := decide) only [gI_sIs, gI_sIo]
    have e11 : gI (sI (sI (sI (sI h 11 F.1.1 (nI w)) 12 F.1.1 (nI x)) 13 F.1.1 (-1)) 10 0 (nI (F.1.1 + 1))) 11 = va_up (gI h 11) F.1.1 (nI w) := by simp (disch := decide) only [gI_sIs, gI_sIo]
    have e12 : gI (sI (sI (sI (sI h 11 F.1.1 (nI w)) 12 F.1.1 (nI x)) 13 F.1.1 (-1)) 10 0 (nI (F.1.1 + 1))) 12 = va_up (gI h 12) F.1.1 (nI x) := by simp (disch := decide) only [gI_sIs, gI_sIo]
    have e13 : gI (sI (sI (sI (sI h 11 F.1.1 (nI w)) 12 F.1.1 (nI x)) 13 F.1.1 (-1)) 10 0 (nI (F.1.1 + 1))) 13 = va_up (gI h 13) F.1.1 (-1) := by simp (disch := decide) only [gI_sIs, gI_sIo]
    have eo : ∀ a, ¬ a = 10 → ¬ a = 11 → ¬ a = 12 → ¬ a = 13 → gI (sI (sI (sI (sI h 11 F.1.1 (nI w)) 12 F.1.1 (nI x)) 13 F.1.1 (-1)) 10 0 (nI (F.1.1 + 1))) a = gI h a := by
      intro a h1 h2 h3 h4
      simp (disch := assumption) only [gI_sIo]
    refine ⟨⟨by show F.1.1 + 1 ≤ 4; omega, ?_, fun p hp => ?_, fun p hp => ?_, fun p hp => ?_, ?_, ?_, ?_, fun p hp => ?_⟩, fun p hp => ?_, fun p hp => ?_, ?_⟩
    · rw [e10, up_s]; rfl
    · have hp' : p < F.1.1 + 1 := hp
      show gI _ 11 p = nI (va_up F.1.2 F.1.1 w p) ∧ va_up F.1.2 F.1.1 w p ≤ 9
      rw [e11]
      by_cases e : p = F.1.1
      · subst e; rw [up_s, up_s]; exact ⟨rfl, hw⟩
      · rw [up_o _ _ e, up_o _ _ e]; exact t2 p (by omega)
    · show gI _ 12 p = nI (va_up F.2.2.2.1.1 F.1.1 x p) ∧ va_up F.2.2.2.1.1 F.1.1 x p ≤ 8
      rw [e12]
      by_cases e : p = F.1.1
      · subst e; rw [up_s, up_s]; exact ⟨rfl, hx⟩
      · rw [up_o _ _ e, up_o _ _ e]; exact t3 p hp
    · rw [eo _ (by decide) (by decide) (by decide) (by decide)]; exact t4 p hp
    · rw [e10, up_o _ _ (by decide)]; exact t5
    · rw [e10, up_o _ _ (by decide)]; exact t6
    · rw [e10, up_o _ _ (by decide)]; exact t7
    · rw [eo _ (by decide) (by decide) (by decide) (by decide)]; exact t8 p hp
    · show gI _ 11 p = nI (va_up F.1.2 F.1.1 w p)
      rw [e11]
      by_cases e : p = F.1.1
      · subst e; rw [up_s, up_s]
      · rw [up_o _ _ e, up_o _ _ e]; exact c2 p hp
    · have hp' : p < F.1.1 + 1 := hp
      show gI _ 13 p = va_up F.2.1 F.1.1 (-1) p
      rw [e13]
      by_cases e : p = F.1.1
      · subst e; rw [up_s, up_s]
      · rw [up_o _ _ e, up_o _ _ e]; exact c3 p (by omega)
    · rw [eo 17 (by decide) (by decide) (by decide) (by decide), eo 18 (by decide) (by decide) (by decide) (by decide)]; exact c4
  · refine Or.inl ⟨by omega, ?_⟩
    rw [if_neg (fun q => c ((nIl (by omega) (by omega)).mp q))]
theorem m_person {h : MH} (L : lay h) (d : Nat) {F : FS} (c : MFS h F) {w x : Nat} (hw1 : 1 ≤ w) (hw : w ≤ 9) (hx : x ≤ 8) : (F.1.1 = 4 ∧ F_X11_person (d + 3) (nI w) (nI x) h = some (.int (-1), h)) ∨ (F.1.1 < 4 ∧ ∃ h', F_X11_person (d + 3) (nI w) (nI x) h = some (.int (nI F.1.1), h') ∧ MFS h' (Fp F w x) ∧ MFr h h') := by
  obtain ⟨⟨t0, t1, t2, t3, t4, t5, t6, t7, t8⟩, c2, c3, c4, c5⟩ := c
  rw [S_X11_person L (d + 2), m_isIn L, cI_some, bI_pos ⟨nI_le (a := 1) (by omega) (by omega), nI_le (b := 9) (by omega) (by omega)⟩, if_neg i10, m_isPlace L, cI_some, bI_pos (ib_nI (by omega) (by omega)), if_neg i10, t1]
  by_cases c : F.1.1 < 4
  · refine Or.inr ⟨c, ?_⟩
    rw [if_neg (fun q => by have := (nIe (by omega) (by omega)).mp q; omega), nIa, ck_pos (ib_nI (by omega) (by omega)), lt_def, ix_nI (by omega), nIa, ck_pos (ib_nI (by omega) (by omega)), lt_def, ix_nI (by omega), nIa, ck_pos (ib_nI (by omega) (by omega)), lt_def, ix_nI (by omega), lt_def]
    rw [sI_def h, sI_rI, sI_rI, gI_rIs, sI_rI, up_o _ _ (by omega), up_o _ _ (by omega), up_o _ _ (by omega), t1, nI_1]
    generalize hb : va_up (va_up (va_up (va_up (gI h 68) (22 + F.1.1) (nI w)) (26 + F.1.1) (nI x)) (9 + F.1.1) (nI x)) 0 (nI (F.1.1 + 1)) = b
    have b0 : b 0 = nI (F.1.1 + 1) := by rw [← hb, up_s]
    have b22 : ∀ p, p < 4 → b (22 + p) = if p = F.1.1 then nI w else gI h 68 (22 + p) := by
      intro p hp
      rw [← hb, up_o _ _ (by omega), up_o _ _ (by omega), up_o _ _ (by omega)]
      by_cases e : p = F.1.1
      · rw [if_pos e, e, up_s]
      · rw [if_neg e, up_o _ _ (by omega)]
    have b26 : ∀ p, p < 4 → b (26 + p) = if p = F.1.1 then nI x else gI h 68 (26 + p) := by
      intro p hp
      rw [← hb, up_o _ _ (by omega), up_o _ _ (by omega)]
      by_cases e : p = F.1.1
      · rw [if_pos e, e, up_s]
      · rw [if_neg e, up_o _ _ (by omega), up_o _ _ (by omega)]
    have b9 : ∀ p, p < 4 → b (9 + p) = if p = F.1.1 then nI x else gI h 68 (9 + p) := by
      intro p hp
      rw [← hb, up_o _ _ (by omega)]
      by_cases e : p = F.1.1
      · rw [if_pos e, e, up_s]
      · rw [if_neg e, up_o _ _ (by omega), up_o _ _ (by omega), up_o _ _ (by omega)]
    have bo : ∀ k, ¬ k = 0 → (k < 9 ∨ 13 ≤ k ∧ k < 22 ∨ 30 ≤ k) → b k = gI h 68 k := by
      intro k h0 hk
      rw [← hb, up_o _ _ h0, up_o _ _ (by omega), up_o _ _ (by omega), up_o _ _ (by omega)]
    refine ⟨_, rfl, ?_, ⟨sm_rI (Or.inl ⟨by decide, by decide⟩), lay_rI L (by decide), fun k hk => by rw [gI_rI' _ _ _ _ (by decide)], fun k hk => by rw [gI_rIs]; exact bo k (by omega) (by omega)⟩⟩
    unfold MFS MTh
    rw [gI_rIs]
    refine ⟨⟨by show F.1.1 + 1 ≤ 4; omega, b0, fun p hp => ?_, fun p hp => ?_, fun p hp => ?_, ?_, ?_, fun q => ?_, fun q p hp => ?_⟩, fun p hp => ?_, fun p hp => ?_, fun p hp => ?_, ?_⟩
    · have hp' : p < F.1.1 + 1 := hp
      show b (22 + p) = nI (va_up F.1.2 F.1.1 w p) ∧ va_up F.1.2 F.1.1 w p ≤ 9
      rw [b22 p (by omega)]
      by_cases e : p = F.1.1
      · subst e; rw [if_pos rfl, up_s]; exact ⟨rfl, hw⟩
      · rw [if_neg e, up_o _ _ e]; exact t2 p (by omega)
    · show b (9 + p) = nI (va_up F.2.2.2.1.1 F.1.1 x p) ∧ va_up F.2.2.2.1.1 F.1.1 x p ≤ 8
      rw [b9 p hp]
      by_cases e : p = F.1.1
      · subst e; rw [if_pos rfl, up_s]; exact ⟨rfl, hx⟩
      · rw [if_neg e, up_o _ _ e]; exact t3 p hp
    · rw [bo _ (by omega) (by omega)]; exact t4 p hp
    · rw [bo _ (by omega) (by omega)]; exact t5
    · rw [bo _ (by omega) (by omega)]; exact t6
    · rw [bo _ (by omega) (by omega)]; exact t7 q
    · rw [bo _ (by omega) (by omega)]; exact t8 q p hp
    · show b (22 + p) = nI (va_up F.1.2 F.1.1 w p)
      rw [b22 p hp]
      by_cases e : p = F.1.1
      · subst e; rw [if_pos rfl, up_s]
      · rw [if_neg e, up_o _ _ e]; exact c2 p hp
    · show b (30 + p) = if p < F.1.1 + 1 then va_up F.2.1 F.1.1 (-1) p else -1
      rw [bo _ (by omega) (by omega), c3 p hp]
      by_cases e : p = F.1.1
      · subst e; rw [if_neg (by omega), if_pos (by omega), up_s]
      · by_cases e2 : p < F.1.1
        · rw [if_pos e2, if_pos (by omega), up_o _ _ e]
        · rw [if_neg e2, if_neg (by omega)]
    · have hp' : p < F.1.1 + 1 := hp
      show b (26 + p) = nI (va_up F.2.2.1 F.1.1 x p)
      rw [b26 p (by omega)]
      by_cases e : p = F.1.1
      · subst e; rw [if_pos rfl, up_s]
      · rw [if_neg e, up_o _ _ e]; exact c4 p (by omega)
    · exact RM_eq c5 (fun k hk => bo k (by omega) (by omega))
  · refine Or.inl ⟨by omega, ?_⟩
    rw [if_pos (show nI F.1.1 = 4 by rw [show F.1.1 = 4 by omega]; rfl)]
theorem A_person {c : Nat} {h : MH} (I : INV c h) (d : Nat) (a b : Int32) : AGI c (F_X10_person (d + 3) a b) (F_X11_person (d + 3) a b) h := by
  have L := I.1
  by_cases ha : ¬ (1 ≤ a ∧ a ≤ 9)
  · refine ⟨-1, h, h, ?_, ?_, I⟩
    · rw [S_X10_person L (d + 2), c_within L, cI_some, bI_neg ha, if_pos rfl]
    · rw [S_X11_person L (d + 2), m_isIn L, cI_some, bI_neg ha, if_pos rfl]
  replace ha := Classical.not_not.mp ha
  rcases in_cases (a := b) (N := 9) (by omega) with ⟨e, hne⟩ | ⟨x, hx, rfl, e⟩
  · have e' : bI (0 ≤ b ∧ b ≤ 8) = 0 := e
    refine ⟨-1, h, h, ?_, ?_, I⟩
    · rw [S_X10_person L (d + 2), c_within L, cI_some, bI_pos ha, if_neg i10, c_within L, cI_some, e', if_pos rfl]
    · rw [S_X11_person L (d + 2), m_isIn L, cI_some, bI_pos ha, if_neg i10, m_isPlace L, cI_some, bI_neg hne, if_pos rfl]
  have e' : bI (0 ≤ nI x ∧ nI x ≤ 8) = 1 := e
  obtain ⟨w, hw1, hw, rfl⟩ := arg_1 (N := 9) (by omega) ha
  refine API_F I (fun F dt ds cf ok rl => ?_)
  have eC : ∀ k, lay k → F_X10_person (d + 3) (nI w) (nI x) k = cI (F_X9_settle (d + 2) 10 (nI w) (nI x) k) (fun x6 h5 => some (.int x6, h5)) := by
    intro k Lk
    rw [S_X10_person Lk (d + 2), c_within Lk, cI_some, bI_pos ha, if_neg i10, c_within Lk, cI_some, e', if_neg i10]
  rcases c_settle L (d + 1) cf hw (show x ≤ 8 by omega) with ⟨n4, e1⟩ | ⟨n4, h1, e1, cf', fr⟩
  · refine ⟨-1, F, ⟨h, by rw [eC h L, e1, cI_some], cf, CFr_refl L⟩, fun k1 L1 mf rm hw' => ?_, ok, Nat.le_refl _⟩
    rcases m_person L1 d mf hw1 hw (show x ≤ 8 by omega) with ⟨n5, e2⟩ | ⟨n5, -⟩
    · exact ⟨k1, e2, mf, MFr_refl L1⟩
    · omega
  · refine ⟨nI F.1.1, Fp F w x, ⟨h1, by rw [eC h L, e1, cI_some], cf', fr⟩, fun k1 L1 mf rm hw' => ?_, Fp_ok n4 ok hw1 hw (by omega), Nat.le_succ _⟩
    rcases m_person L1 d mf hw1 hw (show x ≤ 8 by omega) with ⟨n5, e2⟩ | ⟨n5, h2, e2, mf', fr2⟩
    · omega
    · exact ⟨h2, e2, mf', fr2⟩
/-! goals -/
theorem MTa_of {w : Bool} {a a' : Nat → Int32} {n : Nat} {W : Nat → Nat} {s : TS} (t : MTa w a n W s) (e : ∀ k, (k = 0 ∨ 6 ≤ k ∧ k < 26 ∨ 1468 ≤ k) → a' k = a k) : MTa w a' n W s := by
  obtain ⟨t0, t1, t2, t3, t4, t5, t6, t7, t8⟩ := t
  exact ⟨t0, by rw [e _ (by omega)]; exact t1, fun p hp => by rw [e _ (by omega)]; exact t2 p hp, fun p hp => by rw [e _ (by omega)]; exact t3 p hp, fun p hp => by rw [e _ (by omega)]; exact t4 p hp, by rw [e _ (by omega)]; exact t5, by rw [e _ (by omega)]; exact t6, fun hw => by rw [e _ (by omega)]; exact t7 hw, fun hw k hk => by rw [e _ (by omega)]; exact t8 hw k hk⟩
def Fg (F : FS) (p : Nat) (v : Int32) : FS := (F.1, va_up F.2.1 p v, F.2.2)
theorem Fg_ok {F : FS} (ok : OKF F) {p : Nat} {v : Int32} (hv : v = -1 ∨ ∃ c, c ≤ 8 ∧ v = nI c) : OKF (Fg F p v) := by
  obtain ⟨o1, o2, o3, o4, o5, o6⟩ := ok
  refine ⟨o1, o2, o3, fun k hk => ?_, o5, o6⟩
  show va_up F.2.1 p v k = -1 ∨ ∃ c, c ≤ 8 ∧ va_up F.2.1 p v k = nI c
  by_cases e : k = p
  · subst e; rw [up_s]; exact hv
  · rw [up_o _ _ e]; exact o4 k hk
theorem c_aims {h : MH} (L : lay h) (d : Nat) {F : FS} (c : CFS h F) {a1 : Int32} {p : Nat} (hp : argP a1 p) (v : Int32) : (¬ p < F.1.1 ∧ F_X9_aims (d + 3) 10 a1 v h = some (.int 0, h)) ∨ (p < F.1.1 ∧ ∃ h', F_X9_aims (d + 3) 10 a1 v h = some (.int 1, h') ∧ CFS h' (Fg F p v) ∧ CFr h h') := by
  obtain ⟨c1, c2, c3, c4⟩ := c
  have hn := c1.1
  rw [S_X9_aims L (d + 2) 10 _ _ tAt10, c_has L d tAt10 (CT_twn c1), cI_some]
  rcases argP_n hp hn with ⟨h1, rfl⟩ | ⟨h1, h2⟩
  · refine Or.inr ⟨h1, ?_⟩
    rw [bI_pos (ib_nI h1 (by omega)), if_neg i10, ck_pos (ib_nI (by omega) (by omega)), lt_def, ix_nI (by omega)]
    refine ⟨_, rfl, ⟨?_, fun k hk => ?_, fun k hk => ?_, ?_⟩, CFr_rI L (by decide)⟩
    · exact CT_eq (gI_sIo _ _ _ _ _ (by decide)) (gI_sIo _ _ _ _ _ (by decide)) (gI_sIo _ _ _ _ _ (by decide)) (gI_sIo _ _ _ _ _ (by decide)) (gI_sIo _ _ _ _ _ (by decide)) c1
    · rw [gI_sIo _ _ _ _ _ (by decide)]; exact c2 k hk
    · show gI (sI h 13 p v) 13 k = va_up F.2.1 p v k
      rw [gI_sIs]
      by_cases e : k = p
      · subst e; rw [up_s, up_s]
      · rw [up_o _ _ e, up_o _ _ e]; exact c3 k hk
    · rw [gI_sIo _ _ _ 17 _ (by decide), gI_sIo _ _ _ 18 _ (by decide)]; exact c4
  · refine Or.inl ⟨h1, ?_⟩
    rw [bI_neg h2, if_pos rfl]
theorem m_goal {h : MH} (L : lay h) (d : Nat) {F : FS} (c : MFS h F) {a1 : Int32} {p : Nat} (hp : argP a1 p) {v : Int32} (hv : v = -1 ∨ ∃ c, c ≤ 8 ∧ v = nI c) : (¬ p < F.1.1 ∧ F_X11_goal (d + 3) a1 v h = some (.int 0, h)) ∨ (p < F.1.1 ∧ ∃ h', F_X11_goal (d + 3) a1 v h = some (.int 1, h') ∧ MFS h' (Fg F p v) ∧ MFr h h') := by
  obtain ⟨c1, c2, c3, c4, c5⟩ := c
  have hn := c1.1
  rw [S_X11_goal L (d + 2), m_isPerson L d (MQ_mdl c1), cI_some]
  rcases argP_n hp hn with ⟨h1, rfl⟩ | ⟨h1, h2⟩
  · refine Or.inr ⟨h1, ?_⟩
    have fin : ∃ h', G_X11_goal_12 (d + 2) (nI p) v h = some (.int 1, h') ∧ MFS h' (Fg F p v) ∧ MFr h h' := by
      rw [S_X11_goal_12 L (d + 2), nIa, ck_pos (ib_nI (by omega) (by omega)), lt_def, ix_nI (by omega)]
      refine ⟨_, rfl, ?_, ⟨sm_rI (Or.inl ⟨by decide, by decide⟩), layI L (by decide), fun k hk => by rw [gI_sIo _ _ _ _ _ (by decide)], fun k hk => by rw [gI_sIs, up_o _ _ (by omega)]⟩⟩
      unfold MFS MTh
      rw [gI_sIs]
      refine ⟨MTa_of c1 (fun k hk => up_o _ _ (by omega)), fun k hk => ?_, fun k hk => ?_, fun k hk => ?_, ?_⟩
      · rw [up_o _ _ (by omega)]; exact c2 k hk
      · show va_up (gI h 68) (30 + p) v (30 + k) = if k < F.1.1 then va_up F.2.1 p v k else -1
        by_cases e : k = p
        · subst e; rw [up_s, if_pos h1, up_s]
        · rw [up_o _ _ (by omega), up_o _ _ e]; exact c3 k hk
      · have hk' : k < F.1.1 := hk
        rw [up_o _ _ (by omega)]; exact c4 k hk
      · exact RM_eq c5 (fun k hk => up_o _ _ (by omega))
    rw [bI_pos (ib_nI h1 (by omega)), if_neg i10]
    rcases hv with hv | ⟨x, hx, hv⟩
    · rw [if_pos hv]; exact fin
    · rw [if_neg (by rw [hv]; exact nI_m1 (by omega)), m_isPlace L, cI_some, bI_pos (by rw [hv]; exact ib_nI (by omega) (by omega)), if_neg i10]
      exact fin
  · refine Or.inl ⟨h1, ?_⟩
    rw [bI_neg h2, if_pos rfl]
theorem A_goal {c : Nat} {h : MH} (I : INV c h) (d : Nat) (a b : Int32) : AGI c (F_X10_goal (d + 4) a b) (F_X11_goal (d + 4) a b) h := by
  have L := I.1
  by_cases hb : ¬ (-1 ≤ b ∧ b ≤ 8)
  · obtain ⟨_, ⟨n, W, P, SN, H, X, wr, tn, N, K⟩, M, R⟩ := id I
    refine ⟨0, h, h, ?_, ?_, I⟩
    · rw [S_X10_goal L (d + 3), c_within L, cI_some, bI_neg hb, if_pos rfl]
    · rw [S_X11_goal L (d + 3), m_isPerson L (d + 1) (NOW_m N), cI_some]
      by_cases q : bI (ib a n) = 0
      · rw [if_pos q]
      · rw [if_neg q, if_neg (fun e => hb (by rw [e]; decide)), m_isPlace L, cI_some, bI_neg (fun e => hb ?_), if_pos rfl]
        obtain ⟨j, hj, rfl⟩ := ib_at e (by omega)
        exact ⟨Int32.le_trans (by decide : (-1 : Int32) ≤ 0) (nI_pos' (by omega)), (nIL (by omega) (by omega)).mpr (by omega)⟩
  replace hb := Classical.not_not.mp hb
  have hv : b = -1 ∨ ∃ c, c ≤ 8 ∧ b = nI c := by
    by_cases q : b < 0
    · refine Or.inl ?_
      have h1 := hb.1
      rw [Int32.le_iff_toInt_le] at h1
      rw [Int32.lt_iff_toInt_lt] at q
      have e0 : (0 : Int32).toInt = 0 := by decide
      have e1 : (-1 : Int32).toInt = -1 := by decide
      apply Int32.toInt_inj.mp
      omega
    · obtain ⟨j, hj, rfl⟩ := nI_of q
      exact Or.inr ⟨j, (nIL hj (by omega)).mp hb.2, rfl⟩
  refine API_F I (fun F dt ds cf ok rl => ?_)
  obtain ⟨p, hp⟩ := argP_ex a
  have eC : F_X10_goal (d + 4) a b h = cI (F_X9_aims (d + 3) 10 a b h) (fun x4 h3 => ck (mrt 1 x4) (some (.int x4, h3))) := by
    rw [S_X10_goal L (d + 3), c_within L, cI_some, bI_pos hb, if_neg i10]
  rcases c_aims L d cf hp b with ⟨n4, e1⟩ | ⟨n4, h1, e1, cf', fr⟩
  · refine ⟨0, F, ⟨h, by rw [eC, e1, cI_some, ck_pos mrt0], cf, CFr_refl L⟩, fun k1 L1 mf rm hw' => ?_, ok, Nat.le_refl _⟩
    rcases m_goal L1 (d + 1) mf hp hv with ⟨n5, e2⟩ | ⟨n5, -⟩
    · exact ⟨k1, e2, mf, MFr_refl L1⟩
    · exact absurd n5 n4
  · refine ⟨1, Fg F p b, ⟨h1, by rw [eC, e1, cI_some, ck_pos mrt1], cf', fr⟩, fun k1 L1 mf rm hw' => ?_, Fg_ok ok hv, Nat.le_refl _⟩
    rcases m_goal L1 (d + 1) mf hp hv with ⟨n5, e2⟩ | ⟨n5, h2, e2, mf', fr2⟩
    · exact absurd n4 n5
    · exact ⟨h2, e2, mf', fr2⟩
