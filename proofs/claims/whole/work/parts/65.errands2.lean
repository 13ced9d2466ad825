--deps:19.lay 21.facts 22.00.names 22.01.eq 22.02.eq 22.03.eq 22.04.eq 22.05.eq 22.06.eq 22.07.eq 22.08.eq 22.09.eq 22.10.eq 22.11.eq 22.12.eq 22.13.eq 22.14.eq 22.15.eq 22.16.eq 22.17.eq 22.18.eq 22.19.eq 22.20.eq 22.21.eq 22.22.eq 22.23.eq 23.num 24.town 25.evc 26.evm 27.law 28.says 29.inv 30.api1 31.copy 32.api2 33.api3 34.api4 35.api5 36.deeds 37.hours 38.mdeeds 39.mhours 40.hist 41.full 42.acts 43.acts2 44.played 45.undo 46.trial 47.sets 48.sets2 49.image 50.ask 51.swap 52.level 60.bfs 61.seek 62.explore 63.where 64.errands
/-! ERRANDS, both ways -/
set_option linter.unusedSectionVars false
theorem nI_m3 {a : Nat} (h : a < 2 ^ 31) : ¬ nI a = -3 := by
  intro e
  have : nI a < 0 := by rw [e]; decide
  exact nIz h this
theorem nI_e1 {i j : Nat} (hj : j < 2 ^ 31) (hi : i < 2 ^ 31) : nI j = nI (i + 1) ↔ j = i + 1 := by
  by_cases c : i + 1 < 2 ^ 31
  · exact nI_eq hj c
  · have e : i = 2147483647 := by omega
    subst e
    constructor
    · intro w
      have : nI j < 0 := by rw [w]; decide
      exact absurd this (nIz hj)
    · intro w; omega
theorem EG_GO {n : Nat} {w : Bool} {gd : Nat → Bool} {x g y : Nat} (e : EG n w gd x g = some y) : GO n gd x g = some y := by
  unfold EG at e
  by_cases c : g < cond w 58 8
  · rw [if_pos c] at e; exact e
  · rw [if_neg c] at e; cases e
section ways
variable {h : MH} {n : Nat} {W P : Nat → Nat} {dt ds : Option Den} {gl : Nat → Int32} {gd : Nat → Bool} {w : Bool} {q key lv : Nat → Nat} {len T p : Nat} {z : MH}
theorem tr_at (hn : n ≤ 4) (b : BI 1 (9 ^ n) (EG n w gd) q key lv len T) (c : CS0 h n dt ds gl gd q key len z) (hp : p < len) {r : Nat} (hr : r < lv p) : q (anc key p r) < 6561 ∧ gI z 61 (q (anc key p r)) = nI (64 * q (anc key p (r + 1)) + key (anc key p r) % 64) ∧ 64 * q (anc key p (r + 1)) + key (anc key p r) % 64 < 2 ^ 31 := by
  have n9 := pow9 n (by omega)
  obtain ⟨a1, a2, a3⟩ := anc_lv b hp r (by omega)
  obtain ⟨c1, c2, c3⟩ := anc_lv b hp (r + 1) (by omega)
  have h1 := b.1.2.2.1 _ a1
  have h2 := b.1.2.2.1 _ c1
  refine ⟨by omega, ?_, by omega⟩
  rw [c.2.2.2.1 _ a1]
  unfold trI
  rw [if_neg (by omega)]
  rfl
theorem c_goings (d : Nat) (hn : n ≤ 4) (b : BI 1 (9 ^ n) (EG n w gd) q key lv len T) (c : CS0 h n dt ds gl gd q key len z) (hp : p < len) (eg : gI z 60 3 = nI (q p)) : F_X5_goingsToGoals (d + 1) z = some (.int (nI (lv p)), z) := by
  have n9 := pow9 n (by omega)
  have L := c.1.1
  have hl := BI_len b
  have hv := BI_lv b p hp
  have hq := b.1.2.2.1 p hp
  have key : ∀ j r, r + j = lv p → G_X5_goingsToGoals_13 d (nI r) (nI (q (anc key p r))) (nI r) z = some (.int (nI (lv p)), z) := by
    intro j
    induction j with
    | zero =>
      intro r hr
      obtain ⟨a1, a2, a3⟩ := anc_lv b hp r (by omega)
      have h1 := b.1.2.2.1 _ a1
      have e3 : gI z 61 (q (anc key p r)) = -3 := by
        rw [c.2.2.2.1 _ a1]
        unfold trI
        rw [if_pos (a3.mpr (by omega))]
      rw [S_X5_goingsToGoals_13 L d, if_pos ((nIl (by omega) (by decide)).mpr (by show r < 6561; omega)), ck_pos (ib_nI (by omega) (by omega)), ix_nI (by omega), e3, if_pos rfl, show r = lv p by omega]
    | succ j ih =>
      intro r hr
      obtain ⟨h1, h2, h3⟩ := tr_at hn b c hp (r := r) (by omega)
      rw [S_X5_goingsToGoals_13 L d, if_pos ((nIl (by omega) (by decide)).mpr (by show r < 6561; omega)), ck_pos (ib_nI (by omega) (by omega)), ix_nI (by omega), h2, if_neg (nI_m3 h3), ck_pos (ib_nI (by omega) (by omega)), lt_def, nId h3 (by decide) (by decide), nI_1, ← ih (r + 1) (by omega)]
      congr 2
      show (64 * q (anc key p (r + 1)) + key (anc key p r) % 64) / 64 = _
      omega
  rw [S_X5_goingsToGoals L d, eg, if_neg (nI_m1 (by omega))]
  exact key (lv p) 0 (by omega)
theorem c_going1 (d : Nat) (hn : n ≤ 4) (b : BI 1 (9 ^ n) (EG n w gd) q key lv len T) (c : CS0 h n dt ds gl gd q key len z) (hp : p < len) (eg : gI z 60 3 = nI (q p)) {i : Nat} (hi : i < 2 ^ 31) : F_X5_goingToGoals (d + 2) (nI i) z = some (.int (if i < lv p then nI (key (anc key p (lv p - 1 - i)) % 64) else -2), z) := by
  have n9 := pow9 n (by omega)
  have L := c.1.1
  have hl := BI_len b
  have hv := BI_lv b p hp
  have hq := b.1.2.2.1 p hp
  rw [S_X5_goingToGoals L (d + 1), c_goings d hn b c hp eg, cI_some, c_within L d, cI_some]
  by_cases lt : i < lv p
  · rw [bI_pos ((ib_iff (n := lv p) (by omega)).mpr (ib_nI lt (by omega))), if_neg (by decide), if_pos lt, eg]
    have kk : ∀ j r, r + j + i + 1 = lv p → G_X5_goingToGoals_19 (d + 1) (nI i) (nI (lv p)) (nI (q (anc key p r))) (nI (i + j)) z = some (.int (nI (key (anc key p (lv p - 1 - i)) % 64)), z) := by
      intro j
      induction j with
      | zero =>
        intro r hr
        obtain ⟨h1, h2, h3⟩ := tr_at hn b c hp (r := r) (by omega)
        rw [S_X5_goingToGoals_19 L (d + 1), Nat.add_zero, if_pos (nI_le (Nat.le_refl _) (by omega)), ck_pos (ib_nI (by omega) (by omega)), ix_nI (by omega), h2, nIr h3 (by decide) (by decide), show lv p - 1 - i = r by omega]
        congr 4
        show (64 * q (anc key p (r + 1)) + key (anc key p r) % 64) % 64 = _
        omega
      | succ j ih =>
        intro r hr
        obtain ⟨h1, h2, h3⟩ := tr_at hn b c hp (r := r) (by omega)
        have e1 : nI (i + (j + 1)) + (-1) = nI (i + j) := by
          have : nI (i + j + 1) - 1 = nI (i + j) := nI_pred (i + j)
          rw [← this, Int32.sub_eq_add_neg]
          rfl
        rw [S_X5_goingToGoals_19 L (d + 1), if_neg (fun w => by have := (nI_leI (by omega) (by omega)).mp w; omega), ck_pos (ib_nI (by omega) (by omega)), ix_nI (by omega), h2, lt_def, nId h3 (by decide) (by decide), e1, ← ih (r + 1) (by omega)]
        congr 2
        show (64 * q (anc key p (r + 1)) + key (anc key p r) % 64) / 64 = _
        omega
    have := kk (lv p - 1 - i) 0 (by omega)
    rw [show i + (lv p - 1 - i) = lv p - 1 by omega] at this
    rw [show nI (lv p) - 1 = nI (lv p - 1) from pk_sub (a := lv p) (b := 1) (by omega)]
    exact this
  · rw [bI_neg (fun w => lt ((ib_nIi hi).mp ((ib_iff (n := lv p) (by omega)).mp w))), if_pos rfl, if_neg lt]
variable {k : MH} {SN : Nat → Nat} {F : Nat → Option Nat} {a : Int32}
theorem m_way (d : Nat) (L : lay k) (m : mdl k n W P SN) (ew : w = !(decide (a = 0))) (eg : ∀ p, p < n → gI k 68 (30 + p) = gl p) (f : FAR (9 ^ n) (EG n w gd) (fun y => hmR gl y n) gd F) (a77 : ∀ y, y < 9 ^ n → gI k 77 y = onI (F y)) (fb : ∀ y r, F y = some r → r < 6561) (a79 : ∀ y, y < 9 ^ n → gI k 79 y = bz (gd y)) (b : BI 1 (9 ^ n) (EG n w gd) q key lv len T) (hp : p < len) (hT : p = 0 ∨ 64 * (key p / 64 + 1) ≤ T) (fst : ∀ i, i < p → hmR gl (q i) n = false) (hmp : hmR gl (q p) n = true) {l2 v : Int32} :
    ∀ r j l5, r + j = lv p → ((l2 = -1 ∧ v = nI (lv p)) ∨ ∃ i, i < 2 ^ 31 ∧ l2 = nI i ∧ j ≤ i + 1 ∧ v = (if i < lv p then nI (key (anc key p (lv p - 1 - i)) % 64) else -2)) → (1 ≤ j → l5 = nI (key (anc key p r) % 64)) → G_X11_errands_10 (d + 5) a l2 (nI (q (anc key p r))) (nI j) l5 k = some (.int v, k) := by
  have hn := m.1
  have n9 := pow9 n (by omega)
  have hv := BI_lv b p hp
  have hl := BI_len b
  have at_ := FAR_at f b hp hT fst hmp (fun x g y e => (EG_gd e).1)
  intro r
  induction r with
  | zero =>
    intro j l5 hr hl2 h5
    have hq := b.1.2.2.1 p hp
    rw [S_X11_errands_10 L (d + 5), show anc key p 0 = p from rfl, m_there L (d + 4) hn m.2.1 eg (by omega), hmp, cI_some, if_neg (show ¬ bz true = 0 by decide), S_X11_errands_37 L (d + 5)]
    rcases hl2 with ⟨e1, e2⟩ | ⟨i, hi, e1, hj, e2⟩
    · rw [if_pos e1, e2, show j = lv p by omega]
    · rw [e1, if_neg (nI_m1 hi), if_neg (nIz hi), nI_1]
      by_cases c : j = i + 1
      · rw [if_pos ((nI_e1 (by omega) hi).mpr c), h5 (by omega), e2, if_pos (by omega), show lv p - 1 - i = 0 by omega]
      · rw [if_neg (fun w => c ((nI_e1 (by omega) hi).mp w)), e2, if_neg (by omega)]
  | succ r ih =>
    intro j l5 hr hl2 h5
    obtain ⟨f1, f2, f3, f4⟩ := at_ r (by omega)
    obtain ⟨a1, a2, a3⟩ := anc_lv b hp (r + 1) (by omega)
    have hx := b.1.2.2.1 _ a1
    have step : G_X11_errands_20 (d + 5) a l2 (nI (q (anc key p (r + 1)))) (nI j) l5 k = G_X11_errands_10 (d + 5) a l2 (nI (q (anc key p r))) (nI (j + 1)) (nI (key (anc key p r) % 64)) k := by
      obtain ⟨o, e, nx⟩ := m_next L d m ew a77 fb a79 hx
      have g58 := (EG_gd f2).2.1
      have hit : hitE (EG n w gd) F (q (anc key p (r + 1))) (key (anc key p r) % 64) r := ⟨_, f2, f1⟩
      rcases nx with ⟨-, no⟩ | ⟨g0, r0, e0, hg0, ⟨y0, h1, h2⟩, mn⟩
      · exact absurd hit (no _ _ g58)
      · have k1 := mn _ _ g58 hit
        have k2 := f3 g0 y0 r0 (by omega) h1 h2
        have e1 : g0 = key (anc key p r) % 64 := by
          have x1 := k1.2 (by omega)
          have x2 := k2.2 (by omega)
          omega
        subst e0
        rw [S_X11_errands_20 L (d + 5), e, cI_some, show nxE (some (g0, r0)) = nI g0 from rfl, e1, if_neg (nI_m1 (by omega)), m_gone L (d + 1) m a79 hx g58, EG_GO f2, cI_some, nI_1]
        rfl
    rw [S_X11_errands_10 L (d + 5), m_there L (d + 4) hn m.2.1 eg (by omega), f4, cI_some, if_pos (show bz false = 0 from rfl), step, S_X11_errands_37 L (d + 5)]
    rcases hl2 with ⟨e1, e2⟩ | ⟨i, hi, e1, hj, e2⟩
    · rw [if_pos e1]
      exact ih (j + 1) _ (by omega) (Or.inl ⟨e1, e2⟩) (fun _ => rfl)
    · rw [if_neg (by rw [e1]; exact nI_m1 hi)]
      by_cases c : j ≤ i
      · rw [if_pos (by rw [e1]; exact nI_le c (by omega))]
        exact ih (j + 1) _ (by omega) (Or.inr ⟨i, hi, e1, by omega, e2⟩) (fun _ => rfl)
      · have c' : j = i + 1 := by omega
        rw [if_neg (by rw [e1]; exact fun w => c ((nI_leI (by omega) hi).mp w)), e1, if_neg (nI_m1 hi), if_neg (nIz hi), nI_1, if_pos ((nI_e1 (by omega) hi).mpr c'), h5 (by omega), e2, if_pos (by omega), show lv p - 1 - i = r + 1 by omega]
theorem m_noway (d : Nat) (L : lay k) (m : mdl k n W P SN) (ew : w = !(decide (a = 0))) (eg : ∀ p, p < n → gI k 68 (30 + p) = gl p) (f : FAR (9 ^ n) (EG n w gd) (fun y => hmR gl y n) gd F) (a77 : ∀ y, y < 9 ^ n → gI k 77 y = onI (F y)) (fb : ∀ y r, F y = some r → r < 6561) (a79 : ∀ y, y < 9 ^ n → gI k 79 y = bz (gd y)) (b : BI 1 (9 ^ n) (EG n w gd) q key lv len (64 * len)) (no : ∀ i, i < len → hmR gl (q i) n = false) {l2 : Int32} (hl2 : l2 = -1 ∨ 0 ≤ l2) : G_X11_errands_10 (d + 5) a l2 (nI (q 0)) 0 (-1) k = some (.int (-2), k) := by
  have hn := m.1
  have n9 := pow9 n (by omega)
  have h0 : 0 < len := b.1.1
  have hx := b.1.2.2.1 0 h0
  have step : G_X11_errands_20 (d + 5) a l2 (nI (q 0)) 0 (-1) k = some (.int (-2), k) := by
    obtain ⟨o, e, nx⟩ := m_next L d m ew a77 fb a79 hx
    rcases nx with ⟨e0, -⟩ | ⟨g0, r0, e0, hg0, ⟨y0, h1, h2⟩, -⟩
    · subst e0
      rw [S_X11_errands_20 L (d + 5), e, cI_some, if_pos (show nxE none = -1 from rfl)]
    · obtain ⟨i, hi, ei, -⟩ := BI_nb b (u := 0) (g := g0) (by omega) (by omega) h1
      exact absurd (show F (q i) = some r0 by rw [ei]; exact h2) (FAR_no f b no r0 i hi)
  rw [S_X11_errands_10 L (d + 5), m_there L (d + 4) hn m.2.1 eg (by omega), no 0 h0, cI_some, if_pos (show bz false = 0 from rfl), step]
  by_cases c : l2 = -1
  · rw [if_pos c]
  · rw [if_neg c, if_pos (hl2.resolve_left c)]
end ways
theorem A_errands {c : Nat} {h : MH} (I : INV c h) (d : Nat) (a a2 : Int32) : AGI c (F_X10_errands (d + 12) a a2) (F_X11_errands (d + 12) a a2) h := by
  have L := I.1
  obtain ⟨_, ⟨n, W, P, SN, H, X, wr, tn, N, K⟩, M, R⟩ := id I
  have t := NOW_CT N
  have hn := t.1
  obtain ⟨dt, ds, rc, rm⟩ := NOW_rl N
  generalize hgf : (fun y => stl n W (dg n y P) SN H dt) = gd
  have hgd : ∀ y, gd y = stl n W (dg n y P) SN H dt := fun y => by rw [← hgf]
  generalize hw : (!(decide (a = 0))) = w
  have r4 : ∀ p, p < n → gI h 68 (30 + p) = gI h 13 p := fun p hp => (N.1.2.2.2.1.1 p hp).1.symm
  -- the model from a heap that differs in scratch
  have md : ∀ k, lay k → sm SCR h k → ∃ F k', FAR (9 ^ n) (EG n w gd) (fun y => hmR (gI h 13) y n) gd F ∧ (∀ y, y < 9 ^ n → gI k' 77 y = onI (F y)) ∧ (∀ y r, F y = some r → r < 6561) ∧ (∀ y, y < 9 ^ n → gI k' 79 y = bz (gd y)) ∧ lay k' ∧ INV c k' ∧ mdl k' n W P SN ∧ (∀ p, p < n → gI k' 68 (30 + p) = gI h 13 p) ∧ F_X11_errands (d + 12) a a2 k = G_X11_errands_10 (d + 11) a a2 (nI (stN n P)) 0 (-1) k' := by
    intro k Lk sk
    have Nk := NOW_sm sk N
    have Ik := INV_sm sk Lk I
    have g68k : gI k 68 = gI h 68 := sm_gI sk (by decide) (by decide)
    obtain ⟨F, k', e, f, a77, fb, a79, L', s', g68, g67⟩ := m_fars (R := (SN, H, X, wr, gI k 15)) Lk d (NOW_MQ Nk) (rlM_sm sk rm) (gl := gI h 13) (fun p hp => by rw [g68k]; exact r4 p hp) hgd hw.symm
    have I' := INV_67 s' L' g68 (fun j _ => by rw [g67]) Ik
    have mk' : mdl k' n W P SN := by
      unfold mdl
      rw [g68]
      exact NOW_m Nk
    refine ⟨F, k', f, a77, fb, a79, L', I', mk', fun p hp => by rw [g68, g68k]; exact r4 p hp, ?_⟩
    rw [S_X11_errands Lk (d + 11), e, cV_some, m_standNow L' (d + 10) mk', cI_some]
  by_cases a3 : a2 < -1
  · obtain ⟨F, k', f, a77, fb, a79, L', I', mk', eg', e⟩ := md h L (sm_refl _ h)
    have st9 := stN_lt (n := n) (P := P) (fun p hp => (t.2.2.2.1 p (by omega)).2)
    have n9 := pow9 n (by omega)
    refine ⟨-2, h, k', by rw [S_X10_errands L (d + 11), if_pos a3], ?_, I'⟩
    have n1 : ¬ a2 = -1 := fun w => by rw [w] at a3; exact absurd a3 (by decide)
    have n0 : a2 < 0 := Int32.lt_trans a3 (by decide)
    rw [e, S_X11_errands_10 L' (d + 11), m_there L' (d + 10) hn mk'.2.1 eg' (by omega), cI_some, S_X11_errands_37 L' (d + 11), if_neg n1, if_neg n1, if_pos n0, if_neg (Int32.not_le.mpr n0)]
    split <;> rfl
  · have a4 : a2 = -1 ∨ 0 ≤ a2 := by
      by_cases q : a2 = -1
      · exact Or.inl q
      · right
        rw [Int32.le_iff_toInt_le]
        rw [Int32.lt_iff_toInt_lt] at a3
        have q' : ¬ a2.toInt = (-1 : Int32).toInt := fun w => q (Int32.toInt_inj.mp w)
        have e1 : (-1 : Int32).toInt = -1 := by decide
        have e0 : (0 : Int32).toInt = 0 := by decide
        rw [e1] at a3 q'
        rw [e0]
        omega
    obtain ⟨h1, e1, t1, rl1, s1, L1, g1⟩ := c_trial L (d + 10) t rc
    obtain ⟨q, key, lv, len, h2, hd, e2, b2, c2, g2, q2, f2⟩ := c_explore (h := h) (gl := gI h 13) (W := W) (P := P) (R := (SN, H, X, wr, gI h 15)) (d + 5) (a := a) (l3 := 1) hw.symm hgd L1 s1 t1 rl1 (fun p hp => g1 p (by omega))
    obtain ⟨F, k', f, a77, fb, a79, L', I', mk', eg', e⟩ := md h2 c2.1.1 c2.1.2
    have ec : F_X10_errands (d + 12) a a2 h = (if a2 = -1 then cI (F_X5_goingsToGoals (d + 11) h2) (fun x4 h3 => some (.int x4, h3)) else cI (F_X5_goingToGoals (d + 11) a2 h2) (fun x6 h5 => some (.int x6, h5))) := by
      rw [S_X10_errands L (d + 11), if_neg a3, e1, cV_some, e2, cV_some]
    rcases g2 with ⟨gv, no⟩ | ⟨p, hp, gv, hmp, fst⟩
    · have f2' : hd = len := f2.elim id (fun w => absurd gv w.2)
      subst f2'
      refine ⟨-2, h2, k', ?_, ?_, I'⟩
      · have eg1 : ∀ d, F_X5_goingsToGoals (d + 1) h2 = some (.int (-2), h2) := fun d => by rw [S_X5_goingsToGoals c2.1.1 d, if_pos gv]
        rw [ec]
        by_cases q1 : a2 = -1
        · rw [if_pos q1, eg1 (d + 10), cI_some]
        · have h0 := a4.resolve_left q1
          rw [if_neg q1, S_X5_goingToGoals c2.1.1 (d + 10), eg1 (d + 9), cI_some, c_within c2.1.1 (d + 9), cI_some, bI_neg (fun w => absurd (Int32.le_trans h0 w.2) (by decide)), if_pos rfl, cI_some]
      · rw [e, ← q2]
        exact m_noway (d + 6) L' mk' hw.symm eg' f a77 fb a79 b2 no a4
    · have hT : p = 0 ∨ 64 * (key p / 64 + 1) ≤ 64 * hd := by
        by_cases p0 : p = 0
        · exact Or.inl p0
        · have := (b2.2.1.2 p (by omega) hp).1
          right
          omega
      have z0 : q (anc key p (lv p)) = stN n P := by rw [(anc_lv b2 hp (lv p) (Nat.le_refl _)).2.2.mpr rfl]; exact q2
      by_cases q1 : a2 = -1
      · refine ⟨nI (lv p), h2, k', ?_, ?_, I'⟩
        · rw [ec, if_pos q1, c_goings (d + 10) hn b2 c2 hp gv, cI_some]
        · rw [e, ← z0]
          exact m_way (d + 6) L' mk' hw.symm eg' f a77 fb a79 b2 hp hT fst hmp (lv p) 0 (-1) (by omega) (Or.inl ⟨q1, rfl⟩) (fun w => by omega)
      · have h0 := a4.resolve_left q1
        obtain ⟨i, hi, ei⟩ : ∃ i, i < 2 ^ 31 ∧ a2 = nI i := by
          refine ⟨a2.toInt.toNat, ?_, ?_⟩
          · have := Int32.toInt_lt a2
            omega
          · have h0' : 0 ≤ a2.toInt := by
              rw [Int32.le_iff_toInt_le] at h0
              exact h0
            rw [nI_zI, Int.toNat_of_nonneg h0', zI_of]
        refine ⟨(if i < lv p then nI (key (anc key p (lv p - 1 - i)) % 64) else -2), h2, k', ?_, ?_, I'⟩
        · rw [ec, if_neg q1, ei, c_going1 (d + 9) hn b2 c2 hp gv hi, cI_some]
        · rw [e, ← z0]
          exact m_way (d + 6) L' mk' hw.symm eg' f a77 fb a79 b2 hp hT fst hmp (lv p) 0 (-1) (by omega) (Or.inr ⟨i, hi, ei, by omega, rfl⟩) (fun w => by omega)
