--deps:19.lay 21.facts 22.00.names 22.01.eq 22.02.eq 22.03.eq 22.04.eq 22.05.eq 22.06.eq 22.07.eq 22.08.eq 22.09.eq 22.10.eq 22.11.eq 22.12.eq 22.13.eq 22.14.eq 22.15.eq 22.16.eq 22.17.eq 22.18.eq 22.19.eq 22.20.eq 22.21.eq 22.22.eq 22.23.eq 23.num 24.town 25.evc 26.evm 27.law 28.says 29.inv 30.api1 31.copy 32.api2 33.api3 34.api4 35.api5 36.deeds 37.hours 38.mdeeds 39.mhours 40.hist 41.full 42.acts 43.acts2
/-! TEXTS PLAYED -/
set_option linter.unusedSectionVars false
/-- a clause of kind K, its numbers -/
def CLv (K f g : Nat) (a2 a3 : Int32) : Prop := K ≤ 7 ∧ (2 ≤ K → a2 = nI f) ∧ (K = 2 ∨ K = 3 ∨ K = 6 → a3 = nI g ∧ g ≤ 8) ∧ (K = 2 → 1 ≤ f ∧ f ≤ 9) ∧ (K = 3 → f ≤ 3) ∧ (K = 4 → f ≤ 3) ∧ (K = 5 → f ≤ 3) ∧ (K = 6 → 1 ≤ f ∧ f ≤ 9) ∧ (K = 7 → 1 ≤ f ∧ f ≤ 60)
noncomputable def clS (dt ds : Option Den) (K f g : Nat) (F : FS) : Bool × FS :=
  if K = 2 then (if F.1.1 < 4 then (true, Fp F f g) else (false, F))
  else if K = 3 then (if f < F.1.1 then (true, Fg F f (nI g)) else (false, F))
  else if K = 4 then ((walS dt F f false).isSome, (walS dt F f false).getD F)
  else if K = 5 then ((walS dt F f true).isSome, (walS dt F f true).getD F)
  else if K = 6 then ((shoS dt F g f).isSome, (shoS dt F g f).getD F)
  else if K = 7 then (decide (F.2.2.2.1.2.2.1 + f ≤ 9999), (hrs dt ds f F).1)
  else (true, F)
theorem oz_b {α : Type} (o : Option α) : oz o = bz o.isSome := by cases o <;> rfl
theorem mrt_bz (b : Bool) : mrt 1 (bz b) := by cases b with
  | false => exact Or.inl rfl
  | true => exact Or.inr rfl
theorem clS_ok {dt ds : Option Den} {K f g : Nat} {a2 a3 : Int32} (v : CLv K f g a2 a3) {F : FS} (hn : F.1.1 ≤ 4) (hq : F.2.2.2.2.1 ≤ 30) (ok : OKF F) (b : TSb F.2.2.2.1) (hh : K = 7 → OKF (hrs dt ds f F).1) : OKF (clS dt ds K f g F).2 ∧ F.1.1 ≤ (clS dt ds K f g F).2.1.1 := by
  obtain ⟨v0, v1, v2, v3, v4, v5, v6, v7, v8⟩ := v
  unfold clS
  split
  · rename_i e
    split
    · rename_i l
      exact ⟨Fp_ok l ok (v3 e).1 (v3 e).2 (v2 (Or.inl e)).2, Nat.le_succ _⟩
    · exact ⟨ok, Nat.le_refl _⟩
  · split
    · rename_i e
      split
      · exact ⟨Fg_ok ok (Or.inr ⟨g, (v2 (Or.inr (Or.inl e))).2, rfl⟩), Nat.le_refl _⟩
      · exact ⟨ok, Nat.le_refl _⟩
    · split
      · obtain ⟨o', e'⟩ := walS_ok (dt := dt) (p := f) (r := false) hn hq ok b
        exact ⟨o', by show F.1.1 ≤ ((walS dt F f false).getD F).1.1; rw [e']; exact Nat.le_refl _⟩
      · split
        · obtain ⟨o', e'⟩ := walS_ok (dt := dt) (p := f) (r := true) hn hq ok b
          exact ⟨o', by show F.1.1 ≤ ((walS dt F f true).getD F).1.1; rw [e']; exact Nat.le_refl _⟩
        · split
          · obtain ⟨o', e'⟩ := shoS_ok (dt := dt) (x := g) (k := f) hn hq ok b
            exact ⟨o', by show F.1.1 ≤ ((shoS dt F g f).getD F).1.1; rw [e']; exact Nat.le_refl _⟩
          · split
            · rename_i e7
              exact ⟨hh e7, by show F.1.1 ≤ (hrs dt ds f F).1.1.1; rw [hrs_1]; exact Nat.le_refl _⟩
            · exact ⟨ok, Nat.le_refl _⟩
theorem k300 {K : Nat} (hK : K ≤ 7) (j : Nat) (hj : j ≤ 7) : nI (300 + K) = nI (300 + j) ↔ K = j := by
  rw [nI_eq (by omega) (by omega)]
  omega
theorem c_does {dt ds : Option Den} {h : MH} (L : lay h) (d : Nat) {F : FS} (c : CFS h F) (ok : OKF F) (rl : rlC h (gR h 10 9) dt ds) {K f g : Nat} {a2 a3 : Int32} (v : CLv K f g a2 a3) : ∃ h', F_X0_does (d + 7) (nI (300 + K)) a2 a3 h = some (.int (bz (clS dt ds K f g F).1), h') ∧ CFS h' (clS dt ds K f g F).2 ∧ CFr h h' ∧ OKF (clS dt ds K f g F).2 ∧ F.1.1 ≤ (clS dt ds K f g F).2.1.1 := by
  have vv := v
  obtain ⟨v0, v1, v2, v3, v4, v5, v6, v7, v8⟩ := v
  have tH : gI h 10 5 = nI F.2.2.2.1.2.2.1 ∧ F.2.2.2.1.2.2.1 ≤ 9999 := c.1.2.2.2.2.2.1
  have e7 : nI (300 + K) = 307 ↔ K = 7 := k300 v0 7 (by omega)
  have e2 : nI (300 + K) = 302 ↔ K = 2 := k300 v0 2 (by omega)
  have e3 : nI (300 + K) = 303 ↔ K = 3 := k300 v0 3 (by omega)
  have e4 : nI (300 + K) = 304 ↔ K = 4 := k300 v0 4 (by omega)
  have e5 : nI (300 + K) = 305 ↔ K = 5 := k300 v0 5 (by omega)
  have e6 : nI (300 + K) = 306 ↔ K = 6 := k300 v0 6 (by omega)
  by_cases c7 : K = 7
  · subst c7
    obtain ⟨w1, w2⟩ := v8 rfl
    obtain rfl := v1 (by omega)
    obtain ⟨h1, g1, cf', fr, ok'⟩ := c_waits (dt := dt) (ds := ds) d f w2 f 0 0 F h L (by omega) c ok rl
    have g1' : F_X0_waits (d + 6) (nI f) h = some (.int (nI (0 + (hrs dt ds f F).2)), h1) := by
      rw [S_X0_waits L (d + 5)]
      exact g1
    have hk := clS_ok (dt := dt) (ds := ds) vv c.1.1 (RC_30 c.2.2.2) ok (CT_b c.1) (fun _ => ok')
    have hcl : clS dt ds 7 f g F = (decide (F.2.2.2.1.2.2.1 + f ≤ 9999), (hrs dt ds f F).1) := rfl
    rw [hcl] at hk ⊢
    refine ⟨h1, ?_, cf', fr, hk⟩
    rw [S_X0_does L (d + 6), if_pos (show nI (300 + 7) = 307 from rfl), tH.1, nI_add]
    by_cases q : F.2.2.2.1.2.2.1 + f ≤ 9999
    · rw [if_pos ((nIL (by omega) (by omega)).mpr q), S_X0_does_13 L (d + 6), g1', cI_some, ck_pos mrt1, decide_eq_true q]
      rfl
    · rw [if_neg (fun z => q ((nIL (by omega) (by omega)).mp z)), S_X0_does_13 L (d + 6), g1', cI_some, ck_pos mrt0, decide_eq_false q]
      rfl
  have hk := clS_ok (dt := dt) (ds := ds) vv c.1.1 (RC_30 c.2.2.2) ok (CT_b c.1) (fun q => absurd q c7)
  rw [S_X0_does L (d + 6), if_neg (fun q => c7 (e7.mp q))]
  by_cases c2 : K = 2
  · obtain rfl := v1 (by omega)
    obtain ⟨rfl, g8⟩ := v2 (Or.inl c2)
    obtain ⟨w1, w2⟩ := v3 c2
    rw [if_pos (e2.mpr c2)]
    have hcl : clS dt ds K f g F = (if F.1.1 < 4 then (true, Fp F f g) else (false, F)) := by unfold clS; rw [if_pos c2]
    rw [hcl] at hk ⊢
    rcases c_settle L (d + 5) c w2 g8 with ⟨n4, s1⟩ | ⟨n4, h1, s1, cf', fr⟩
    · rw [if_neg (by omega)] at hk ⊢
      rw [s1, cI_some, if_pos rfl]
      exact ⟨h, rfl, c, CFr_refl L, hk⟩
    · rw [if_pos n4] at hk ⊢
      rw [s1, cI_some, if_neg (nI_m1 (by omega))]
      exact ⟨h1, rfl, cf', fr, hk⟩
  rw [if_neg (fun q => c2 (e2.mp q))]
  by_cases c3 : K = 3
  · obtain rfl := v1 (by omega)
    obtain ⟨rfl, g8⟩ := v2 (Or.inr (Or.inl c3))
    have w2 := v4 c3
    rw [if_pos (e3.mpr c3)]
    have hcl : clS dt ds K f g F = (if f < F.1.1 then (true, Fg F f (nI g)) else (false, F)) := by unfold clS; rw [if_neg c2, if_pos c3]
    rw [hcl] at hk ⊢
    rcases c_aims L (d + 3) c (Or.inl ⟨by omega, rfl⟩ : argP (nI f) f) (nI g) with ⟨n4, s1⟩ | ⟨n4, h1, s1, cf', fr⟩
    · rw [if_neg n4] at hk ⊢
      rw [s1, cI_some, ck_pos mrt0]
      exact ⟨h, rfl, c, CFr_refl L, hk⟩
    · rw [if_pos n4] at hk ⊢
      rw [s1, cI_some, ck_pos mrt1]
      exact ⟨h1, rfl, cf', fr, hk⟩
  rw [if_neg (fun q => c3 (e3.mp q))]
  by_cases c4 : K = 4
  · obtain rfl := v1 (by omega)
    have w2 := v5 c4
    rw [if_pos (e4.mpr c4)]
    have hcl : clS dt ds K f g F = ((walS dt F f false).isSome, (walS dt F f false).getD F) := by unfold clS; rw [if_neg c2, if_neg c3, if_pos c4]
    rw [hcl] at hk ⊢
    obtain ⟨h1, s1, cf', fr⟩ := c_walks L d c rl (Or.inl ⟨by omega, rfl⟩ : argP (nI f) f) 0
    rw [s1, cI_some, ck_pos (mrt_oz _), oz_b]
    exact ⟨h1, rfl, cf', fr, hk⟩
  rw [if_neg (fun q => c4 (e4.mp q))]
  by_cases c5 : K = 5
  · obtain rfl := v1 (by omega)
    have w2 := v6 c5
    rw [if_pos (e5.mpr c5)]
    have hcl : clS dt ds K f g F = ((walS dt F f true).isSome, (walS dt F f true).getD F) := by unfold clS; rw [if_neg c2, if_neg c3, if_neg c4, if_pos c5]
    rw [hcl] at hk ⊢
    obtain ⟨h1, s1, cf', fr⟩ := c_walks L d c rl (Or.inl ⟨by omega, rfl⟩ : argP (nI f) f) 1
    rw [s1, cI_some, ck_pos (mrt_oz _), oz_b]
    exact ⟨h1, rfl, cf', fr, hk⟩
  rw [if_neg (fun q => c5 (e5.mp q))]
  by_cases c6 : K = 6
  · obtain rfl := v1 (by omega)
    obtain ⟨rfl, g8⟩ := v2 (Or.inr (Or.inr c6))
    obtain ⟨w1, w2⟩ := v7 c6
    rw [if_pos (e6.mpr c6)]
    have hcl : clS dt ds K f g F = ((shoS dt F g f).isSome, (shoS dt F g f).getD F) := by unfold clS; rw [if_neg c2, if_neg c3, if_neg c4, if_neg c5, if_pos c6]
    rw [hcl] at hk ⊢
    obtain ⟨h1, s1, cf', fr⟩ := c_shovels L d c rl (x := g) (k := f) (by omega) w2
    rw [s1, cI_some, ck_pos (mrt_oz _), oz_b]
    exact ⟨h1, rfl, cf', fr, hk⟩
  rw [if_neg (fun q => c6 (e6.mp q))]
  have hcl : clS dt ds K f g F = (true, F) := by unfold clS; rw [if_neg c2, if_neg c3, if_neg c4, if_neg c5, if_neg c6, if_neg c7]
  rw [hcl]
  exact ⟨h, rfl, c, CFr_refl L, ok, Nat.le_refl _⟩
theorem m_isPlayed {dt ds : Option Den} {h : MH} (L : lay h) (d : Nat) {F : FS} (c : MFS h F) (hw : gI h 67 23 = 1) (rl : rlM h (gI h 68 3) dt ds) {K f g : Nat} {a2 a3 : Int32} (v : CLv K f g a2 a3) {x : Nat} (hx : x + 2 < 2724) (x0 : gI h 70 x = nI K) (x1 : gI h 70 (x + 1) = a2) (x2 : gI h 70 (x + 2) = a3) : ∃ h', F_X11_isPlayed (d + 12) (nI x) h = some (.int (bz (clS dt ds K f g F).1), h') ∧ MFS h' (clS dt ds K f g F).2 ∧ MFr h h' := by
  obtain ⟨v0, v1, v2, v3, v4, v5, v6, v7, v8⟩ := v
  have tH := c.1.2.2.2.2.2.1
  have e2 : nI K = 2 ↔ K = 2 := nI_eq (a := K) (b := 2) (by omega) (by omega)
  have e3 : nI K = 3 ↔ K = 3 := nI_eq (a := K) (b := 3) (by omega) (by omega)
  have e4 : nI K = 4 ↔ K = 4 := nI_eq (a := K) (b := 4) (by omega) (by omega)
  have e5 : nI K = 5 ↔ K = 5 := nI_eq (a := K) (b := 5) (by omega) (by omega)
  have e6 : nI K = 6 ↔ K = 6 := nI_eq (a := K) (b := 6) (by omega) (by omega)
  have e7 : nI K = 7 ↔ K = 7 := nI_eq (a := K) (b := 7) (by omega) (by omega)
  rw [S_X11_isPlayed L (d + 11), nI_1, ck_pos (ib_nI (by omega) (by omega)), lt_def, ix_nI (n := x + 1) (by omega), x1, nIb, ck_pos (ib_nI (by omega) (by omega)), lt_def, ix_nI (n := x + 2) (by omega), x2, ck_pos (ib_nI (by omega) (by omega)), ix_nI (n := x) (by omega), x0]
  by_cases c2 : K = 2
  · obtain rfl := v1 (by omega)
    obtain ⟨rfl, g8⟩ := v2 (Or.inl c2)
    obtain ⟨w1, w2⟩ := v3 c2
    rw [if_pos (e2.mpr c2)]
    have hcl : clS dt ds K f g F = (if F.1.1 < 4 then (true, Fp F f g) else (false, F)) := by unfold clS; rw [if_pos c2]
    rw [hcl]
    rcases m_person L (d + 8) c w1 w2 g8 with ⟨n4, s1⟩ | ⟨n4, h1, s1, cf', fr⟩
    · rw [if_neg (by omega)]
      rw [s1, cI_some, if_pos (by decide)]
      exact ⟨h, rfl, c, MFr_refl L⟩
    · rw [if_pos n4]
      rw [s1, cI_some, if_neg (nIz (by omega))]
      exact ⟨h1, rfl, cf', fr⟩
  rw [if_neg (fun q => c2 (e2.mp q))]
  by_cases c3 : K = 3
  · obtain rfl := v1 (by omega)
    obtain ⟨rfl, g8⟩ := v2 (Or.inr (Or.inl c3))
    have w2 := v4 c3
    rw [if_pos (e3.mpr c3)]
    have hcl : clS dt ds K f g F = (if f < F.1.1 then (true, Fg F f (nI g)) else (false, F)) := by unfold clS; rw [if_neg c2, if_pos c3]
    rw [hcl]
    rcases m_goal L (d + 8) c (Or.inl ⟨by omega, rfl⟩ : argP (nI f) f) (Or.inr ⟨g, g8, rfl⟩) with ⟨n4, s1⟩ | ⟨n4, h1, s1, cf', fr⟩
    · rw [if_neg n4]
      rw [s1, cI_some, ck_pos mrt0]
      exact ⟨h, rfl, c, MFr_refl L⟩
    · rw [if_pos n4]
      rw [s1, cI_some, ck_pos mrt1]
      exact ⟨h1, rfl, cf', fr⟩
  rw [if_neg (fun q => c3 (e3.mp q))]
  by_cases c4 : K = 4
  · obtain rfl := v1 (by omega)
    have w2 := v5 c4
    rw [if_pos (e4.mpr c4)]
    have hcl : clS dt ds K f g F = ((walS dt F f false).isSome, (walS dt F f false).getD F) := by unfold clS; rw [if_neg c2, if_neg c3, if_pos c4]
    rw [hcl]
    obtain ⟨h1, s1, cf', fr⟩ := m_walk L d c rl (Or.inl ⟨by omega, rfl⟩ : argP (nI f) f) 0
    rw [s1, cI_some, ck_pos (mrt_oz _), oz_b]
    exact ⟨h1, rfl, cf', fr⟩
  rw [if_neg (fun q => c4 (e4.mp q))]
  by_cases c5 : K = 5
  · obtain rfl := v1 (by omega)
    have w2 := v6 c5
    rw [if_pos (e5.mpr c5)]
    have hcl : clS dt ds K f g F = ((walS dt F f true).isSome, (walS dt F f true).getD F) := by unfold clS; rw [if_neg c2, if_neg c3, if_neg c4, if_pos c5]
    rw [hcl]
    obtain ⟨h1, s1, cf', fr⟩ := m_walk L d c rl (Or.inl ⟨by omega, rfl⟩ : argP (nI f) f) 1
    rw [s1, cI_some, ck_pos (mrt_oz _), oz_b]
    exact ⟨h1, rfl, cf', fr⟩
  rw [if_neg (fun q => c5 (e5.mp q))]
  by_cases c6 : K = 6
  · obtain rfl := v1 (by omega)
    obtain ⟨rfl, g8⟩ := v2 (Or.inr (Or.inr c6))
    obtain ⟨w1, w2⟩ := v7 c6
    rw [if_pos (e6.mpr c6)]
    have hcl : clS dt ds K f g F = ((shoS dt F g f).isSome, (shoS dt F g f).getD F) := by unfold clS; rw [if_neg c2, if_neg c3, if_neg c4, if_neg c5, if_pos c6]
    rw [hcl]
    obtain ⟨h1, s1, cf', fr⟩ := m_shovel L d c rl (x := g) (k := f) (by omega) w1 w2
    rw [s1, cI_some, ck_pos (mrt_oz _), oz_b]
    exact ⟨h1, rfl, cf', fr⟩
  rw [if_neg (fun q => c6 (e6.mp q))]
  by_cases c7 : K = 7
  · obtain rfl := v1 (by omega)
    obtain ⟨w1, w2⟩ := v8 c7
    rw [if_pos (e7.mpr c7)]
    have hcl : clS dt ds K f g F = (decide (F.2.2.2.1.2.2.1 + f ≤ 9999), (hrs dt ds f F).1) := by unfold clS; rw [if_neg c2, if_neg c3, if_neg c4, if_neg c5, if_neg c6, if_pos c7]
    rw [hcl]
    obtain ⟨h1, s1, cf', fr, -⟩ := m_arePassed (dt := dt) (ds := ds) L d w2 c hw rl
    rw [s1, cI_some]
    by_cases q : F.2.2.2.1.2.2.1 + f ≤ 9999
    · rw [if_pos q, ck_pos mrt1, decide_eq_true q]
      exact ⟨h1, rfl, cf', fr⟩
    · rw [if_neg q, ck_pos mrt0, decide_eq_false q]
      exact ⟨h1, rfl, cf', fr⟩
  · rw [if_neg (fun q => c7 (e7.mp q))]
    have hcl : clS dt ds K f g F = (true, F) := by unfold clS; rw [if_neg c2, if_neg c3, if_neg c4, if_neg c5, if_neg c6, if_neg c7]
    rw [hcl]
    exact ⟨h, rfl, c, MFr_refl L⟩
/-! all clauses -/
def TXv (h : MH) (r t cnt : Nat) (K F S : Nat → Nat) : Prop := (kd h r = 9 ∧ 84 ≤ r ∧ t < 4) ∧ (cnt ≤ 24 ∧ gI h 70 (681 * t) = nI cnt) ∧ (clsA h (gR h r 2) cnt ∧ clsA h (gR h r 3) cnt ∧ clsA h (gR h r 4) cnt) ∧ (∀ k, k < cnt → gI h (gR h r 2) k = nI (300 + K k) ∧ gI h 70 (681 * t + 3 * k + 1) = nI (K k) ∧ CLv (K k) (F k) (S k) (gI h (gR h r 3) k) (gI h (gR h r 4) k) ∧ CLv (K k) (F k) (S k) (gI h 70 (681 * t + 3 * k + 1 + 1)) (gI h 70 (681 * t + 3 * k + 1 + 2)))
theorem txtR_v {h : MH} {r t : Nat} (ht : t < 4) (w : txtR h r t) : ∃ cnt K F S, TXv h r t cnt K F S := by
  obtain ⟨dt, ds, cnt, K, F, S, h1, ⟨h2, h3, -, -⟩, h4, h5⟩ := w
  refine ⟨cnt, K, F, S, ⟨h1.1, h1.2.1, ht⟩, ⟨h2, h3⟩, h4, fun k hk => ?_⟩
  obtain ⟨⟨a1, a2, a3⟩, a4, a5, a6, a7, a8, a9, a10, a11⟩ := h5 k hk
  exact ⟨a2, a3, ⟨a1, fun q => (a4 q).1, fun q => ⟨(a5 q).1, (a5 q).2.2⟩, a6, a7, a8, a9, a10, a11⟩, ⟨a1, fun q => (a4 q).2, fun q => ⟨(a5 q).2.1, (a5 q).2.2⟩, a6, a7, a8, a9, a10, a11⟩⟩
theorem TXv_sm {Z : List Nat} {h h' : MH} (s : sm Z h h') (h70 : ¬ 70 ∈ Z) {r t cnt : Nat} {K F S : Nat → Nat} (w : TXv h r t cnt K F S) : TXv h' r t cnt K F S := by
  obtain ⟨⟨h1, h1', h1''⟩, ⟨h2, h3⟩, ⟨c2, c3, c4⟩, h5⟩ := w
  have e70 : gI h' 70 = gI h 70 := sm_gI s h70 (by omega)
  have eR : gR h' r = gR h r := sm_gR s (Or.inr h1')
  have g : ∀ {a : Nat}, clsA h a cnt → gI h' a = gI h a := fun {a} c => s.2.2 a (Or.inr c.2.2.1) c.2.2.2
  refine ⟨⟨(sm_kd s r).trans h1, h1', h1''⟩, ⟨h2, by rw [e70]; exact h3⟩, ?_, ?_⟩
  · rw [eR]
    exact ⟨clsA_sm s c2, clsA_sm s c3, clsA_sm s c4⟩
  · rw [eR, e70, g c2, g c3, g c4]
    exact h5
noncomputable def plS (dt ds : Option Den) (K F S : Nat → Nat) : Nat → Nat → FS → Int32 × FS
  | 0, _, B => (-1, B)
  | r + 1, i, B => match (clS dt ds (K i) (F i) (S i) B).1 with
    | true => plS dt ds K F S r (i + 1) (clS dt ds (K i) (F i) (S i) B).2
    | false => (nI i, (clS dt ds (K i) (F i) (S i) B).2)
theorem c_playLoop {dt ds : Option Den} (d : Nat) (a : Int32) {r t cnt : Nat} {K F S : Nat → Nat} : ∀ (m i : Nat) (B : FS) (h : MH), i + m = cnt → lay h → TXv h r t cnt K F S → CFS h B → OKF B → rlC h (gR h 10 9) dt ds → ∃ h', G_X10_played_11 (d + 7) a r (nI i) h = some (.int (plS dt ds K F S m i B).1, h') ∧ CFS h' (plS dt ds K F S m i B).2 ∧ CFr h h' ∧ OKF (plS dt ds K F S m i B).2 ∧ B.1.1 ≤ (plS dt ds K F S m i B).2.1.1 := by
  intro m
  induction m with
  | zero =>
    intro i B h hi L x c ok rl
    obtain ⟨⟨h1, h1', h1''⟩, ⟨h2, h3⟩, ⟨⟨k2, l2, -⟩, -, -⟩, h5⟩ := x
    rw [S_X10_played_11 L (d + 7), ck_pos h1, ck_pos (by omega), l2, if_neg (nI_nlt (by omega) (by omega))]
    exact ⟨h, rfl, c, CFr_refl L, ok, Nat.le_refl _⟩
  | succ m ih =>
    intro i B h hi L x c ok rl
    have xx := x
    obtain ⟨⟨h1, h1', h1''⟩, ⟨h2, h3⟩, ⟨⟨k2, l2, -⟩, ⟨k3, l3, -⟩, ⟨k4, l4, -⟩⟩, h5⟩ := x
    obtain ⟨y1, y2, y3, y4⟩ := h5 i (by omega)
    obtain ⟨g1, e1, cf', fr, ok', hn⟩ := c_does L d c ok rl y3
    rw [S_X10_played_11 L (d + 7), ck_pos h1, ck_pos (by omega), l2, if_pos (nI_lt (by omega) (by omega)), ck_pos h1, ck_pos ⟨Or.inl k2, ib_nI (by omega) (by omega)⟩, ck_pos h1, l3, ck_pos ⟨Or.inl k3, ib_nI (by omega) (by omega)⟩, ck_pos h1, l4, ck_pos ⟨Or.inl k4, ib_nI (by omega) (by omega)⟩, ix_nI (by omega), y1, e1, cI_some, plS]
    cases hb : (clS dt ds (K i) (F i) (S i) B).1 with
    | true =>
      obtain ⟨g2, e2, cf2, fr2, ok2, hn2⟩ := ih (i + 1) (clS dt ds (K i) (F i) (S i) B).2 g1 (by omega) fr.2.2 (TXv_sm fr.1 (by decide) xx) cf' ok' (CFr_rl fr rl)
      rw [if_neg bz1, nI_1, e2]
      exact ⟨g2, rfl, cf2, CFr_trans fr fr2, ok2, Nat.le_trans hn hn2⟩
    | false =>
      rw [if_pos (show bz false = 0 from rfl)]
      exact ⟨g1, rfl, cf', fr, ok', hn⟩
theorem m_playLoop {dt ds : Option Den} (d : Nat) {r t cnt : Nat} {K F S : Nat → Nat} : ∀ (m i : Nat) (B : FS) (h : MH), i + m = cnt → lay h → TXv h r t cnt K F S → MFS h B → gI h 67 23 = 1 → rlM h (gI h 68 3) dt ds → ∃ h', G_X11_played_14 (d + 12) (nI t) (nI i) h = some (.int (plS dt ds K F S m i B).1, h') ∧ MFS h' (plS dt ds K F S m i B).2 ∧ MFr h h' := by
  intro m
  induction m with
  | zero =>
    intro i B h hi L x c hw rl
    obtain ⟨⟨h1, h1', h1''⟩, ⟨h2, h3⟩, -, h5⟩ := x
    rw [S_X11_played_14 L (d + 12), nIm, ck_pos (ib_nI (by omega) (by omega)), ix_nI (by omega), h3, if_neg (nI_nlt (by omega) (by omega))]
    exact ⟨h, rfl, c, MFr_refl L⟩
  | succ m ih =>
    intro i B h hi L x c hw rl
    have xx := x
    obtain ⟨⟨h1, h1', h1''⟩, ⟨h2, h3⟩, -, h5⟩ := x
    obtain ⟨y1, y2, y3, y4⟩ := h5 i (by omega)
    obtain ⟨g1, e1, cf', fr⟩ := m_isPlayed L d c hw rl y4 (x := 681 * t + 3 * i + 1) (by omega) y2 rfl rfl
    rw [S_X11_played_14 L (d + 12), nIm, ck_pos (ib_nI (by omega) (by omega)), ix_nI (by omega), h3, if_pos (nI_lt (by omega) (by omega)), nI_1, nIm, nI_add, show 681 * t + 1 + 3 * i = 681 * t + 3 * i + 1 by omega, e1, cI_some, plS]
    cases hb : (clS dt ds (K i) (F i) (S i) B).1 with
    | true =>
      obtain ⟨g2, e2, cf2, fr2⟩ := ih (i + 1) (clS dt ds (K i) (F i) (S i) B).2 g1 (by omega) fr.2.1 (TXv_sm fr.1 (by decide) xx) cf' (by rw [fr.2.2.1 23 (by decide)]; exact hw) (MFr_rl fr rl)
      rw [if_neg bz1, nI_1, e2]
      exact ⟨g2, rfl, cf2, MFr_trans fr fr2⟩
    | false =>
      rw [if_pos (show bz false = 0 from rfl)]
      exact ⟨g1, rfl, cf', fr⟩
theorem API_G {c : Nat} {h : MH} (I : INV c h) {f g : MH → Option (Value × MH)} (hf : ∀ (F : FS) (dt ds : Option Den), CFS h F → OKF F → rlC h (gR h 10 9) dt ds → ∃ v F', (∃ h1, f h = some (.int v, h1) ∧ CFS h1 F' ∧ CFr h h1) ∧ (∀ h1, lay h1 → CFr h h1 → MFS h1 F → rlM h1 (gI h1 68 3) dt ds → gI h1 67 23 = 1 → ∃ h2, g h1 = some (.int v, h2) ∧ MFS h2 F' ∧ MFr h1 h2) ∧ OKF F' ∧ F.1.1 ≤ F'.1.1) : AGI c f g h := by
  obtain ⟨L, ⟨n, W, P, SN, H, X, wr, tn, N, K⟩, M, R⟩ := I
  obtain ⟨F, cf, mf, ok, eF, -⟩ := NOW_F N
  obtain ⟨dt, ds, rc, rm⟩ := NOW_rl N
  obtain ⟨v, F', ⟨h1, e1, cf', fr⟩, hm, ok', hn⟩ := hf F dt ds cf ok rc
  have g68 : gI h1 68 = gI h 68 := sm_gI fr.1 (by decide) (by decide)
  have mf1 : MFS h1 F := by
    unfold MFS MTh
    rw [g68]
    exact mf
  have rm1 : rlM h1 (gI h1 68 3) dt ds := by
    rw [g68]
    exact rlM_sm' fr.1 (by decide) rm
  obtain ⟨h2, e2, mf', fr2⟩ := hm h1 fr.2.2 fr mf1 rm1 (by rw [sm_gI fr.1 (by decide) (by decide)]; exact M.2.2.2.2)
  refine ⟨v, h1, h2, e1, e2, INV_F N K M R cf' fr mf' fr2 ok' ?_⟩
  have : F.1.1 = n := by rw [eF]
  omega
theorem A_played {c : Nat} {h : MH} (I : INV c h) (d : Nat) (a : Int32) : AGI c (F_X10_played (d + 13) a) (F_X11_played (d + 13) a) h := by
  have L := I.1
  have II := I
  obtain ⟨_, ⟨n, W, P, SN, H, X, wr, tn, N, K⟩, M, R⟩ := II
  have q6 := N.1.2.2.2.2.2.1
  have htn := q6.1
  have e4 : gI h 9 4 = nI tn := q6.2.1
  have e2 : gI h 68 2 = nI tn := q6.2.2.1
  rcases in_cases (a := a) (N := tn) (by omega) with ⟨e, hne⟩ | ⟨t, ht, rfl, e⟩
  · refine ⟨-2, h, h, ?_, ?_, I⟩
    · rw [S_X10_played L (d + 12), S_X0_textOf L (d + 11), c_within L, cI_some, e4, e, if_pos rfl, cR_some, if_pos rfl]
    · rw [S_X11_played L (d + 12), m_isIn L, cI_some, e2, e, if_pos rfl]
  obtain ⟨cnt, Kk, Ff, Ss, tx⟩ := txtR_v (by omega) (N.2 t ht)
  refine API_G I (fun F dt ds cf ok rl => ?_)
  obtain ⟨h1, e1, cf', fr, ok', hn⟩ := c_playLoop (dt := dt) (ds := ds) (d + 5) (nI t) cnt 0 F h (by omega) L tx cf ok rl
  have h84 : ¬ gR h 23 t = 0 := by have := tx.1.2.1; omega
  refine ⟨(plS dt ds Kk Ff Ss cnt 0 F).1, (plS dt ds Kk Ff Ss cnt 0 F).2, ⟨h1, ?_, cf', fr⟩, fun k1 L1 fk mf rm hw => ?_, ok', hn⟩
  · rw [S_X10_played L (d + 12), S_X0_textOf L (d + 11), c_within L, cI_some, e4, e, if_neg i10, ck_pos (ib_nI (by omega) (by omega)), ix_nI (by omega), cR_some, if_neg h84]
    exact e1
  · obtain ⟨h2, e5, mf', fr2⟩ := m_playLoop (dt := dt) (ds := ds) d cnt 0 F k1 (by omega) L1 (TXv_sm fk.1 (by decide) tx) mf hw rm
    refine ⟨h2, ?_, mf', fr2⟩
    have e2' : gI k1 68 2 = nI tn := by rw [sm_gI fk.1 (by decide) (by decide)]; exact e2
    rw [S_X11_played L1 (d + 12), m_isIn L1, cI_some, e2', e, if_neg i10]
    exact e5
