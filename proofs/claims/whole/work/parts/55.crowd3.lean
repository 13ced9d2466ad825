--deps:19.lay 21.facts 22.00.names 22.01.eq 22.02.eq 22.03.eq 22.04.eq 22.05.eq 22.06.eq 22.07.eq 22.08.eq 22.09.eq 22.10.eq 22.11.eq 22.12.eq 22.13.eq 22.14.eq 22.15.eq 22.16.eq 22.17.eq 22.18.eq 22.19.eq 22.20.eq 22.21.eq 22.22.eq 22.23.eq 23.num 24.town 25.evc 26.evm 27.law 28.says 29.inv 30.api1 31.copy 32.api2 33.api3 34.api4 35.api5 36.deeds 37.hours 38.mdeeds 39.mhours 40.hist 41.full 42.acts 43.acts2 44.played 45.undo 46.trial 47.sets 48.sets2 49.image 50.ask 51.swap 52.level 53.crowd 54.crowd2
/-! QUARREL, ORDERS, ORDER, SHARE: the answers -/
set_option linter.unusedSectionVars false
/-! the reference's longs beside its laws -/
theorem m_saysL {h : MH} (L : lay h) (d : Nat) {n : Nat} {W : Nat → Nat} {P : Nat → Nat} {SN : Nat → Nat} (t : mdl h n W P SN) {N tx cnt srt wo top : Nat} {o : Option Den} (htx : tx < 4) (hc : cnt ≤ 24) (ec : gI h 70 (681 * tx) = nI cnt) (w : lwMO h N tx cnt srt o) (htop : top < 1000) {nm : Nat → Int} (env : envL nm (ldZ n W P SN) N (gI h 73) (ldL n W P SN)) : ∃ h', F_X11_says (d + 7) (nI tx) (nI srt) (nI wo) (nI top) h = some (.int (nI (sayN o wo top nm (ldZ n W P SN))), h') ∧ sm [75] h h' ∧ gL h' 83 = gL h 83 := by
  rw [S_X11_says L (d + 6)]
  have e0 : 681 * nI tx = nI (681 * tx) := nIm 681 tx
  have step : ∀ k, k < cnt → G_X11_says_2 (d + 6) (nI tx) (nI srt) (nI wo) (nI top) (nI k) h = if gI h 70 (681 * tx + 3 * k + 1) = nI srt then cL (F_X11_summedUp (d + 6) (nI tx) (nI k) h) (fun x2 h1 => cI (F_X11_cut (d + 6) x2 0 (nI top) h1) (fun x4 h3 => some (.int x4, h3))) else G_X11_says_2 (d + 6) (nI tx) (nI srt) (nI wo) (nI top) (nI (k + 1)) h := by
    intro k hk
    have e1 : nI (681 * tx) + 1 + 3 * nI k = nI (681 * tx + 3 * k + 1) := by
      rw [nIm, show nI (681 * tx) + 1 = nI (681 * tx + 1) from nI_add _ 1, nI_add]; congr 1; omega
    rw [S_X11_says_2 L (d + 6), e0, e1, if_neg (nIz (by omega)), ck_pos (ib_nI (by omega) (by omega)), ix_nI (n := 681 * tx) (by omega), ec, if_pos (nI_lt hk (by omega)), ck_pos (ib_nI (by omega) (by omega)), ix_nI (by omega), nI_1]
  match o, w with
  | none, w =>
    refine ⟨h, ?_, sm_refl _ _, rfl⟩
    refine (loop_all (n := cnt) (F := fun k => G_X11_says_2 (d + 6) (nI tx) (nI srt) (nI wo) (nI top) (nI k) h) (fun k hk => ?_)).trans ?_
    · show G_X11_says_2 _ _ _ _ _ _ _ = _
      rw [step k hk, if_neg (w k hk)]
    · show G_X11_says_2 _ _ _ _ _ _ _ = _
      rw [S_X11_says_2 L (d + 6), e0, if_neg (nIz (by omega)), ck_pos (ib_nI (by omega) (by omega)), ix_nI (n := 681 * tx) (by omega), ec, if_neg (nI_nlt (Nat.le_refl _) (by omega))]
      rfl
  | some v, w =>
    obtain ⟨k, hk, e1, e2, w2, ho⟩ := w
    have bd := ho nm _ env.1
    obtain ⟨vals, tru, es⟩ := m_summedUp L d t htx (by omega) w2 env
    refine ⟨mvh h vals tru, ?_, sm_trans (sm_rI (Z := [75]) (a := 75) (f := tru) (Or.inl ⟨List.mem_singleton.mpr rfl, by omega⟩)) sm_rL, (show (if (83 : Nat) = 74 then vals else gL (rI h 75 tru) 83) = gL h 83 from if_neg (by decide))⟩
    refine (loop_all (n := k) (F := fun k => G_X11_says_2 (d + 6) (nI tx) (nI srt) (nI wo) (nI top) (nI k) h) (fun j hj => ?_)).trans ?_
    · show G_X11_says_2 _ _ _ _ _ _ _ = _
      rw [step j (by omega), if_neg (e2 j hj)]
    · show G_X11_says_2 _ _ _ _ _ _ _ = _
      rw [step k hk, if_pos e1, es, cL_some, m_cut (lay_mvh L vals tru) (d + 5) (mdl_mvh t vals tru) bd.1 bd.2 htop, cI_some]
      rfl
theorem m_tipsNowL {h : MH} (L : lay h) (d : Nat) {n : Nat} {W : Nat → Nat} {P : Nat → Nat} {SN : Nat → Nat} (t : mdl h n W P SN) {H : Nat} (eH : gI h 68 6 = nI H) (hH : H ≤ 9999) {dt : Option Den} {ds : Option Den} (rl : rlM h (gI h 68 3) dt ds) : ∃ h', F_X11_tipsNow (d + 8) h = some (.int (nI (tpsN dt (nmZ n W P SN H none) (ldZ n W P SN))), h') ∧ sm [73, 75] h h' ∧ gL h' 83 = gL h 83 := by
  obtain ⟨f, e, hf⟩ := m_name L (d + 3) t eH
  have L' : lay (rI h 73 f) := lay_rI L (by decide)
  have t' : mdl (rI h 73 f) n W P SN := by
    unfold mdl
    rw [gI_rI' _ _ _ _ (by decide)]
    exact t
  have s1 : sm [73, 75] h (rI h 73 f) := sm_rI (Or.inl ⟨by decide, by decide⟩)
  rw [S_X11_tipsNow L (d + 7), e, cV_some, gI_rI' _ _ _ _ (by decide)]
  rcases rl with ⟨ex, rfl, rfl⟩ | ⟨tx, htx, ex, cnt, hc, ec, w0, w1⟩
  · refine ⟨_, ?_, s1, rfl⟩
    rw [ex, S_X11_says L' (d + 6), S_X11_says_2 L' (d + 6), if_pos (by decide), cI_some]
    rfl
  · have env : envL (nmZ n W P SN H none) (ldZ n W P SN) 4 (gI (rI h 73 f) 73) (ldL n W P SN) := by
      refine ⟨env_ok (mdl_tbd t) hH (fun _ q => by cases q), fun k hk => ?_, ldL_z (mdl_tbd t)⟩
      rw [gI_rIs]
      exact hf k hk
    obtain ⟨h2, e2, s2, g2⟩ := m_saysL L' d t' (N := 4) (tx := tx) (cnt := cnt) (srt := 0) (wo := 9) (top := 99) (o := dt) htx hc (by rw [gI_rI' _ _ _ _ (by decide)]; exact ec) (lwMO_eq (gI_rI' _ _ _ _ (by decide)) w0) (by omega) env
    refine ⟨h2, ?_, sm_trans s1 (sm_mono s2 (by decide)), g2⟩
    rw [ex]
    refine (congrArg (fun o => cI o fun x3 h2 => some (Value.int x3, h2)) e2).trans ?_
    rw [cI_some]
    congr 4
/-- both answer the same long and keep the relation -/
def AGJ (c : Nat) (f g : MH → Option (Value × MH)) (h : MH) : Prop := ∃ v h1 h2, f h = some (.long v, h1) ∧ g h1 = some (.long v, h2) ∧ INV c h2
theorem wy_le {tz : Nat → Int} {bound : Nat} {w : Nat → Nat} (ew : ∀ S, w S = wyF tz bound S w 4) : ∀ S, w S ≤ 5 ^ S := by
  intro S
  induction S using Nat.strongRecOn with
  | ind S ih =>
    rw [ew S]
    unfold wyF
    by_cases s0 : S = 0
    · subst s0
      have : sumN (fun p => if clB tz bound 0 p then w (0 - 2 ^ p) else 0) 4 ≤ 0 * 4 := sumN_le (fun p _ => by
        have : ¬ clB tz bound 0 p = true := fun q => by have := clB_bit q; simp at this
        rw [if_neg this]
        exact Nat.le_refl 0)
      rw [if_pos rfl]
      show 1 + _ ≤ 1
      omega
    · have hs : sumN (fun p => if clB tz bound S p then w (S - 2 ^ p) else 0) 4 ≤ 5 ^ (S - 1) * 4 := sumN_le (fun p _ => by
        by_cases q : clB tz bound S p = true
        · rw [if_pos q]
          have l := bit_lt (clB_bit q)
          exact Nat.le_trans (ih _ l) (Nat.pow_le_pow_right (by decide) (by omega))
        · rw [if_neg q]; exact Nat.zero_le _)
      have e : 5 ^ S = 5 ^ (S - 1) * 5 := by rw [← Nat.pow_succ, Nat.succ_eq_add_one, show S - 1 + 1 = S by omega]
      have pos : 0 < 5 ^ (S - 1) := Nat.pow_pos (by decide)
      rw [if_neg s0, e]
      omega
theorem wy_63 {tz : Nat → Int} {bound : Nat} {w : Nat → Nat} (ew : ∀ S, w S = wyF tz bound S w 4) {S : Nat} (h : S < 16) : w S < 2 ^ 63 := by
  have h1 := wy_le ew S
  have h2 : 5 ^ S ≤ 5 ^ 15 := Nat.pow_le_pow_right (by decide) (by omega)
  have h3 : 5 ^ 15 < 2 ^ 63 := by decide
  omega
theorem findB_fix {f : Nat → Bool} {no : Int32} {n : Nat} (hn : n ≤ 4) (h : ∀ k, n ≤ k → k < 4 → f k = false) : findB f no 4 0 = findB f no n 0 := by
  have := findB_ext (f := f) (no := no) (j := 4 - n) n 0 (fun k h1 h2 => h k (by omega) (by omega))
  rw [show n + (4 - n) = 4 by omega] at this
  exact this
theorem A_quarrel {c : Nat} {h : MH} (I : INV c h) (d : Nat) (a : Int32) : AGI c (F_X10_quarrel (d + 10) a) (F_X11_quarrel (d + 10) a) h := by
  have L := I.1
  obtain ⟨_, ⟨n, W, P, SN, H, X, wr, tn, N, K⟩, M, R⟩ := id I
  obtain ⟨dt, ds, rc, rm⟩ := NOW_rl N
  obtain ⟨w, ew⟩ := wy_ex (tipS n W P SN) (tpsN dt (nmZ n W P SN H none) (ldZ n W P SN))
  obtain ⟨v, ev⟩ := wn_ex (tipS n W P SN) (tpsN dt (nmZ n W P SN H none) (ldZ n W P SN))
  have hn := (NOW_t N).1
  have h16 := pow4 hn
  have hp2 := Nat.two_pow_pos n
  have u3 : H ≤ 9999 := N.1.2.1.1.2.2
  have tl := tpsN_le dt (nmZ n W P SN H none) (ldZ n W P SN)
  obtain ⟨h1, e1, s1, L1, g1, j1⟩ := c_weigh I (d + 4) N rc ew ev
  have I1 := INV_sm s1 L1 I
  have N1 := NOW_sm s1 N
  obtain ⟨h2, e2, s2, L2, j2⟩ := m_layLeaving I1 d N1 (rlM_sm s1 rm) ew ev
  have s12 := sm_trans s1 s2
  have N2 := NOW_sm s12 N
  have m2 := NOW_m N2
  obtain ⟨h3, e3, v3⟩ := m_tipsNow L2 (d + 1) m2 (NOW_H N2).2.1 u3 (rlM_sm s12 rm)
  have L3 : lay h3 := lay_F e3 L2 rfl
  have s3 : sm SCR h h3 := sm_trans s12 (sm_mono v3 (by decide))
  have m3 := NOW_m (NOW_sm s3 N)
  have g82 : gI h3 82 = gI h2 82 := sm_gI v3 (by decide) (by decide)
  have zb : ∀ S, S < 2 ^ n → -1000 < tipS n W P SN S ∧ tipS n W P SN S < 1000 := fun S _ => tipS_b (twn_tbd (NOW_t N)) S
  generalize tpsN dt (nmZ n W P SN H none) (ldZ n W P SN) = bound at ew ev g1 e3 tl
  generalize hf : (fun p => clB (tipS n W P SN) bound (2 ^ n - 1) p && !(v (2 ^ n - 1 - 2 ^ p))) = f
  have hf' : ∀ p, f p = (clB (tipS n W P SN) bound (2 ^ n - 1) p && !(v (2 ^ n - 1 - 2 ^ p))) := fun p => by rw [← hf]
  have evE : v (2 ^ n - 1) = anyB f 4 := by rw [ev, ← hf]; rfl
  have fx : findB f (-1) 4 0 = findB f (-1) n 0 := findB_fix hn (fun k k1 k2 => by rw [hf', clB_hi hn (by omega) k1 k2]; rfl)
  have cq : ∀ m i, i + m = 4 → G_X1_winningFirst_2 (d + 8) (nI i) h1 = some (.int (findB f (-1) m i), h1) := by
    intro m
    induction m with
    | zero =>
      intro i hi
      rw [S_X1_winningFirst_2 L1 (d + 8), if_neg (fun q => by have := (nIl (by omega) (by omega)).mp q; omega)]
      rfl
    | succ m ih =>
      intro i hi
      rw [S_X1_winningFirst_2 L1 (d + 8), if_pos ((nIl (by omega) (by omega)).mpr (by omega)), g1.2.1, c_canLeave L1 (d + 6) hn tl zb g1 (by omega) (by omega), cI_some, findB, hf', S_X1_winningFirst_23 L1 (d + 8), nI_1, ih (i + 1) (by omega)]
      cases q : clB (tipS n W P SN) bound (2 ^ n - 1) i with
      | false => rw [if_pos (show bz false = 0 from rfl), Bool.false_and, if_neg (by decide)]
      | true =>
        obtain ⟨q1, q2, -⟩ := bit_ge (2 ^ n - 1) (by omega) i (by omega) (clB_bit q)
        rw [if_neg bz1, g1.2.1, one_shl (by omega), pk_sub q1, ck_pos (ib_nI (by omega) (by omega)), ix_nI (by omega), (j1 _ (by omega)).2, Bool.true_and]
        cases v (2 ^ n - 1 - 2 ^ i) with
        | true => rw [if_neg bz1]; rfl
        | false => rw [if_pos (show bz false = 0 from rfl)]; rfl
  have mq : ∀ m i, i + m = n → G_X11_quarrel_21 (d + 9) a (nI (2 ^ n - 1)) (nI bound) (nI i) h3 = some (.int (findB f (-1) m i), h3) := by
    intro m
    induction m with
    | zero =>
      intro i hi
      rw [S_X11_quarrel_21 L3 (d + 9), m3.2.1, if_neg (nI_nlt (by omega) (by omega))]
      rfl
    | succ m ih =>
      intro i hi
      rw [S_X11_quarrel_21 L3 (d + 9), m3.2.1, if_pos (nI_lt (by omega) (by omega)), m_canLeave L3 (d + 6) m3 tl (by omega) (by omega), cI_some, findB, hf', S_X11_quarrel_46 L3 (d + 9), nI_1, ih (i + 1) (by omega)]
      cases q : clB (tipS n W P SN) bound (2 ^ n - 1) i with
      | false => rw [if_pos (show bz false = 0 from rfl), Bool.false_and, if_neg (by decide)]
      | true =>
        obtain ⟨q1, q2, -⟩ := bit_ge (2 ^ n - 1) (by omega) i (by omega) (clB_bit q)
        rw [if_neg bz1, bit_and _ (by omega) i (by omega) (clB_bit q), ck_pos (ib_nI (by omega) (by omega)), ix_nI (by omega), g82, (j2 _ (by omega)).2, Bool.true_and]
        cases v (2 ^ n - 1 - 2 ^ i) with
        | true => rw [if_neg bz1]; rfl
        | false => rw [if_pos (show bz false = 0 from rfl)]; rfl
  have wf : F_X1_winningFirst (d + 9) h1 = some (.int (findB f (-1) 4 0), h1) := by
    rw [S_X1_winningFirst L1 (d + 8)]
    exact cq 4 0 rfl
  have ve : (findB f (-1) 4 0 = -1) ↔ v (2 ^ n - 1) = false := by
    rw [evE]
    constructor
    · intro q
      apply Bool.eq_false_iff.mpr
      intro z
      obtain ⟨k, k1, k2⟩ := anyB_iff.mp z
      obtain ⟨k', a1, a2, a3, a4, -⟩ := findB_some (no := -1) 4 0 ⟨k, by omega, by omega, k2⟩
      rw [a4] at q
      exact nI_m1 (by omega) q
    · intro q
      refine findB_none 4 0 (fun k k1 k2 => Bool.eq_false_iff.mpr (fun z => ?_))
      have := anyB_iff.mpr ⟨k, by omega, z⟩
      rw [q] at this
      cases this
  by_cases a0 : a = 0
  · refine ⟨bz (v (2 ^ n - 1)), h1, h2, ?_, ?_, INV_sm s12 L2 I⟩
    · rw [S_X10_quarrel L (d + 9), e1, cV_some, wf, cI_some, if_pos a0]
      cases q : v (2 ^ n - 1) with
      | false => rw [if_pos (ve.mpr q)]; rfl
      | true => rw [if_neg (fun z => by rw [ve.mp z] at q; cases q)]; rfl
    · rw [S_X11_quarrel L1 (d + 9), e2, cV_some, m_everyone L2 (d + 8) m2, cI_some, if_pos a0, ck_pos (ib_nI (by omega) (by omega)), ix_nI (by omega), (j2 _ (by omega)).2]
      cases v (2 ^ n - 1) with
      | false => rw [if_pos (show bz false = 0 from rfl)]; rfl
      | true => rw [if_neg bz1]; rfl
  · refine ⟨findB f (-1) 4 0, h1, h3, ?_, ?_, INV_sm s3 L3 I⟩
    · rw [S_X10_quarrel L (d + 9), e1, cV_some, wf, cI_some, if_neg a0]
    · rw [S_X11_quarrel L1 (d + 9), e2, cV_some, m_everyone L2 (d + 8) m2, cI_some, if_neg a0, e3, cI_some, fx]
      exact mq n 0 (by omega)
theorem A_orders {c : Nat} {h : MH} (I : INV c h) (d : Nat) : AGJ c (F_X10_orders (d + 10)) (F_X11_orders (d + 10)) h := by
  have L := I.1
  obtain ⟨_, ⟨n, W, P, SN, H, X, wr, tn, N, K⟩, M, R⟩ := id I
  obtain ⟨dt, ds, rc, rm⟩ := NOW_rl N
  obtain ⟨w, ew⟩ := wy_ex (tipS n W P SN) (tpsN dt (nmZ n W P SN H none) (ldZ n W P SN))
  obtain ⟨v, ev⟩ := wn_ex (tipS n W P SN) (tpsN dt (nmZ n W P SN H none) (ldZ n W P SN))
  have hn := (NOW_t N).1
  have h16 := pow4 hn
  have hp2 := Nat.two_pow_pos n
  obtain ⟨h1, e1, s1, L1, g1, j1⟩ := c_weigh I (d + 4) N rc ew ev
  have I1 := INV_sm s1 L1 I
  have N1 := NOW_sm s1 N
  obtain ⟨h2, e2, s2, L2, j2⟩ := m_layLeaving I1 d N1 (rlM_sm s1 rm) ew ev
  have s12 := sm_trans s1 s2
  refine ⟨lN (w (2 ^ n - 1)), h1, h2, ?_, ?_, INV_sm s12 L2 I⟩
  · rw [S_X10_orders L (d + 9), e1, cV_some, g1.2.1, ck_pos (ib_nI (by omega) (by omega)), ix_nI (by omega), (j1 _ (by omega)).1]
  · rw [S_X11_orders L1 (d + 9), e2, cV_some, m_everyone L2 (d + 8) (NOW_m (NOW_sm s12 N)), cI_some, ck_pos (ib_nI (by omega) (by omega)), ix_nI (by omega), (j2 _ (by omega)).1]
theorem pop_full : ∀ n, n ≤ 4 → popN (2 ^ n - 1) = n := by decide
theorem pop_0 : ∀ S, S < 16 → popN S = 0 → S = 0 := by decide
theorem A_order {c : Nat} {h : MH} (I : INV c h) (d : Nat) (a : Int32) : AGI c (F_X10_order (d + 10) a) (F_X11_order (d + 10) a) h := by
  have L := I.1
  obtain ⟨_, ⟨n, W, P, SN, H, X, wr, tn, N, K⟩, M, R⟩ := id I
  obtain ⟨dt, ds, rc, rm⟩ := NOW_rl N
  obtain ⟨w, ew⟩ := wy_ex (tipS n W P SN) (tpsN dt (nmZ n W P SN H none) (ldZ n W P SN))
  obtain ⟨v, ev⟩ := wn_ex (tipS n W P SN) (tpsN dt (nmZ n W P SN H none) (ldZ n W P SN))
  have hn := (NOW_t N).1
  have h16 := pow4 hn
  have hp2 := Nat.two_pow_pos n
  have u3 : H ≤ 9999 := N.1.2.1.1.2.2
  have e0 : gI h 10 0 = nI n := (NOW_t N).2.1
  -- the reference lays first, whatever is asked
  have mlay : ∀ k, lay k → sm SCR h k → ∃ k', F_X11_layLeaving (d + 9) k = some (.int 0, k') ∧ sm SCR h k' ∧ lay k' ∧ MLv k' w v (2 ^ n) := by
    intro k Lk sk
    obtain ⟨k', e', s', L', j'⟩ := m_layLeaving (INV_sm sk Lk I) d (NOW_sm sk N) (rlM_sm sk rm) ew ev
    exact ⟨k', e', sm_trans sk s', L', j'⟩
  have w63 : ∀ S, S < 16 → w S < 2 ^ 63 := fun S hS => wy_63 ew hS
  rcases in_cases (a := a) (N := n) (by omega) with ⟨e, hne⟩ | ⟨i, hi, rfl, e⟩
  · obtain ⟨h2, e2, s2, L2, j2⟩ := mlay h L (sm_refl _ h)
    refine ⟨-2, h, h2, ?_, ?_, INV_sm s2 L2 I⟩
    · rw [S_X10_order L (d + 9), c_within L, cI_some, e0, e, if_pos rfl]
    · rw [S_X11_order L (d + 9), e2, cV_some, m_everyone L2 (d + 8) (NOW_m (NOW_sm s2 N)), cI_some, ck_pos (ib_nI (by omega) (by omega)), m_isIn L2, cI_some, (NOW_m (NOW_sm s2 N)).2.1, e, if_pos rfl]
      split <;> rfl
  obtain ⟨h1, e1, s1, L1, g1, j1⟩ := c_weigh I (d + 4) N rc ew ev
  obtain ⟨h2, e2, s12, L2, j2⟩ := mlay h1 L1 s1
  have N2 := NOW_sm s12 N
  have m2 := NOW_m N2
  obtain ⟨h3, e3, v3, gl⟩ := m_tipsNowL L2 (d + 1) m2 (NOW_H N2).2.1 u3 (rlM_sm s12 rm)
  have L3 : lay h3 := lay_F e3 L2 rfl
  have s3 : sm SCR h h3 := sm_trans s12 (sm_mono v3 (by decide))
  have m3 := NOW_m (NOW_sm s3 N)
  have tl := tpsN_le dt (nmZ n W P SN H none) (ldZ n W P SN)
  have zb : ∀ S, S < 2 ^ n → -1000 < tipS n W P SN S ∧ tipS n W P SN S < 1000 := fun S _ => tipS_b (twn_tbd (NOW_t N)) S
  generalize tpsN dt (nmZ n W P SN H none) (ldZ n W P SN) = bound at ew ev g1 e3 tl
  have z0 : (0 : Int64) = lN 0 := rfl
  have ew' : ∀ S, S < 2 ^ n → w S = wyF (tipS n W P SN) bound S w n := by
    intro S hS
    rw [ew S]
    unfold wyF
    rw [sumN_ext hn (fun i h1 h2 => by rw [clB_hi hn hS h1 h2]; rfl)]
  -- the class's next
  have cn : ∀ S, S < 2 ^ n → F_X1_nextOff (d + 8) (nI S) h1 = some (.int (findB (fun p => clB (tipS n W P SN) bound S p && decide (0 < w (S - 2 ^ p))) (-2) 4 0), h1) := by
    intro S hS
    rw [S_X1_nextOff L1 (d + 7)]
    have lp : ∀ m i, i + m = 4 → G_X1_nextOff_2 (d + 7) (nI S) (nI i) h1 = some (.int (findB (fun p => clB (tipS n W P SN) bound S p && decide (0 < w (S - 2 ^ p))) (-2) m i), h1) := by
      intro m
      induction m with
      | zero =>
        intro i hi
        rw [S_X1_nextOff_2 L1 (d + 7), if_neg (fun q => by have := (nIl (by omega) (by omega)).mp q; omega)]
        rfl
      | succ m ih =>
        intro i hi
        rw [S_X1_nextOff_2 L1 (d + 7), if_pos ((nIl (by omega) (by omega)).mpr (by omega)), c_canLeave L1 (d + 5) hn tl zb g1 hS (by omega), cI_some, findB, S_X1_nextOff_23 L1 (d + 7), nI_1, ih (i + 1) (by omega)]
        cases q : clB (tipS n W P SN) bound S i with
        | false => rw [if_pos (show bz false = 0 from rfl), Bool.false_and, if_neg (by decide)]
        | true =>
          obtain ⟨q1, q2, -⟩ := bit_ge S (by omega) i (by omega) (clB_bit q)
          have b63 := w63 (S - 2 ^ i) (by omega)
          rw [if_neg bz1, one_shl (by omega), pk_sub q1, ck_pos (ib_nI (by omega) (by omega)), ix_nI (by omega), (j1 _ (by omega)).1, Bool.true_and]
          by_cases q3 : 0 < w (S - 2 ^ i)
          · rw [if_neg (fun z => by rw [lg_cmp_le, z0, pk_lLE b63 (by omega)] at z; omega), decide_eq_true q3, if_pos rfl]
          · rw [if_pos (by rw [lg_cmp_le, z0, pk_lLE b63 (by omega)]; omega), decide_eq_false q3, if_neg (by decide)]
    exact lp 4 0 rfl
  -- the reference's next
  have mn : ∀ S, S < 2 ^ n → ∀ p, p < 4 → (clB (tipS n W P SN) bound S p && decide (0 < w (S - 2 ^ p))) = true → ∀ m j (l5 : Int32), j + m = p → (∀ q, j ≤ q → q < p → (clB (tipS n W P SN) bound S q && decide (0 < w (S - 2 ^ q))) = false) → G_X11_order_36 (d + 9) (nI i) (nI S) (nI bound) (nI j) l5 h3 = G_X11_order_31 (d + 9) (nI i) (nI (S - 2 ^ p)) (nI bound) (nI p) (l5 + 1) h3 := by
    intro S hS p hp hit m
    induction m with
    | zero =>
      intro j l5 hj _
      obtain rfl : j = p := by omega
      rw [Bool.and_eq_true] at hit
      obtain ⟨q1, q2, -⟩ := bit_ge S (by omega) j hp (clB_bit hit.1)
      have b63 := w63 (S - 2 ^ j) (by omega)
      have hw := of_decide_eq_true hit.2
      rw [S_X11_order_36 L3 (d + 9), m_canLeave L3 (d + 6) m3 tl hS hp, cI_some, hit.1, if_neg bz1, bit_and S (by omega) j hp (clB_bit hit.1), ck_pos (ib_nI (by omega) (by omega)), ix_nI (by omega), gl, (j2 _ (by omega)).1, if_neg (fun z => by rw [lg_cmp_eq, z0, pk_lEQ b63 (by omega)] at z; omega), lt_def]
    | succ m ih =>
      intro j l5 hj hno
      have no := hno j (Nat.le_refl _) (by omega)
      have nx := ih (j + 1) l5 (by omega) (fun q h1 h2 => hno q (by omega) h2)
      rw [S_X11_order_36 L3 (d + 9), m_canLeave L3 (d + 6) m3 tl hS (by omega), cI_some, S_X11_order_55 L3 (d + 9), nI_1, nx]
      cases q : clB (tipS n W P SN) bound S j with
      | false => rw [if_pos (show bz false = 0 from rfl)]
      | true =>
        rw [q, Bool.true_and] at no
        obtain ⟨q1, q2, -⟩ := bit_ge S (by omega) j (by omega) (clB_bit q)
        have b63 := w63 (S - 2 ^ j) (by omega)
        have hw := of_decide_eq_false no
        rw [if_neg bz1, bit_and S (by omega) j (by omega) (clB_bit q), ck_pos (ib_nI (by omega) (by omega)), ix_nI (by omega), gl, (j2 _ (by omega)).1, if_pos (by rw [lg_cmp_eq, z0, pk_lEQ b63 (by omega)]; omega)]
  have hits : ∀ S, S < 2 ^ n → ¬ S = 0 → 0 < w S → ∃ p, p < n ∧ (clB (tipS n W P SN) bound S p && decide (0 < w (S - 2 ^ p))) = true := by
    intro S hS s0 hw
    apply Classical.byContradiction
    intro no
    have : w S = 0 := by
      rw [ew' S hS]
      unfold wyF
      rw [if_neg s0, Nat.zero_add]
      have := sumN_le (f := fun p => if clB (tipS n W P SN) bound S p then w (S - 2 ^ p) else 0) (n := n) (b := 0) (fun p hp => by
        by_cases q : clB (tipS n W P SN) bound S p = true
        · rw [if_pos q]
          apply Classical.byContradiction
          intro z
          exact no ⟨p, hp, by rw [q, Bool.true_and]; exact decide_eq_true (by omega)⟩
        · rw [if_neg q]; exact Nat.le_refl 0)
      omega
    omega
  have run : ∀ m k S (last : Int32), k + m = i + 1 → S < 2 ^ n → popN S + k = n → 0 < w S → ∃ v, G_X1_goingOff_7 (d + 8) (nI i) (nI S) last (nI k) h1 = some (.int v, h1) ∧ G_X11_order_31 (d + 9) (nI i) (nI S) (nI bound) last (nI k) h3 = some (.int v, h3) := by
    intro m
    induction m with
    | zero =>
      intro k S last hk hS hp hw
      exact ⟨last, by rw [S_X1_goingOff_7 L1 (d + 8), if_neg (nI_ge (by omega) (by omega))], by rw [S_X11_order_31 L3 (d + 9), if_neg (nI_ge (by omega) (by omega))]⟩
    | succ m ih =>
      intro k S last hk hS hp hw
      have s0 : ¬ S = 0 := by
        intro z
        rw [z] at hp
        have : popN 0 = 0 := by decide
        omega
      obtain ⟨p0, p1, p2⟩ := hits S hS s0 hw
      obtain ⟨p, a1, a2, a3, a4, a5⟩ := findB_some (f := fun p => clB (tipS n W P SN) bound S p && decide (0 < w (S - 2 ^ p))) (no := -2) 4 0 ⟨p0, by omega, by omega, p2⟩
      have a3' := a3
      rw [Bool.and_eq_true] at a3'
      obtain ⟨q1, q2, q3⟩ := bit_ge S (by omega) p (by omega) (clB_bit a3'.1)
      obtain ⟨v', r1, r2⟩ := ih (k + 1) (S - 2 ^ p) (nI p) (by omega) (by omega) (by omega) (of_decide_eq_true a3'.2)
      refine ⟨v', ?_, ?_⟩
      · rw [S_X1_goingOff_7 L1 (d + 8), if_pos (nI_le (by omega) (by omega)), if_neg (nI_ne0 (by omega) (by omega)), cn S hS, cI_some, a4, if_neg (fun z => by
          have := nIz (a := p) (by omega)
          rw [z] at this
          exact this (by decide)), one_shl (by omega), pk_sub q1, lt_def, nI_1, r1]
      · rw [S_X11_order_31 L3 (d + 9), if_pos (nI_le (by omega) (by omega))]
        refine (mn S hS p (by omega) a3 p 0 (nI k) (by omega) (fun q h1 h2 => a5 q h1 h2)).trans ?_
        rw [nI_1, r2]
  have e' : bI (0 ≤ nI i ∧ nI i ≤ nI n - 1) = 1 := e
  have eC : F_X10_order (d + 10) (nI i) h = cI (F_X1_goingOff (d + 9) (nI i) h1) (fun x5 h4 => some (.int x5, h4)) := by
    rw [S_X10_order L (d + 9), c_within L, cI_some, e0, e', if_neg i10, e1, cV_some]
  have eM : F_X11_order (d + 10) (nI i) h1 = if lg_cmp (lN (w (2 ^ n - 1))) 0 = 0 then some (.int (-2), h2) else G_X11_order_31 (d + 9) (nI i) (nI (2 ^ n - 1)) (nI bound) 0 0 h3 := by
    rw [S_X11_order L1 (d + 9), e2, cV_some, m_everyone L2 (d + 8) m2, cI_some, ck_pos (ib_nI (by omega) (by omega)), ix_nI (by omega), (j2 _ (by omega)).1, m_isIn L2, cI_some, m2.2.1, e', if_neg i10, e3, cI_some]
  have b63 := w63 (2 ^ n - 1) (by omega)
  have n1 : 2 ≤ 2 ^ n := by
    have : 2 ^ 1 ≤ 2 ^ n := Nat.pow_le_pow_right (by decide) (by omega)
    omega
  by_cases hw : 0 < w (2 ^ n - 1)
  · obtain ⟨p0, p1, p2⟩ := hits (2 ^ n - 1) (by omega) (by omega) hw
    obtain ⟨v', r1, r2⟩ := run (i + 1) 0 (2 ^ n - 1) (-2) (by omega) (by omega) (by rw [pop_full n hn]; rfl) hw
    -- the last word before the first is never asked for
    have r2' : G_X11_order_31 (d + 9) (nI i) (nI (2 ^ n - 1)) (nI bound) 0 0 h3 = some (.int v', h3) := by
      rw [S_X11_order_31 L3 (d + 9), if_pos (nI_le (a := 0) (b := i) (by omega) (by omega))] at r2
      rw [S_X11_order_31 L3 (d + 9), if_pos (nI_pos' (n := i) (by omega))]
      exact r2
    refine ⟨v', h1, h3, ?_, ?_, INV_sm s3 L3 I⟩
    · rw [eC, S_X1_goingOff L1 (d + 8), g1.2.1]
      refine (congrArg (fun o => cI o fun x5 h4 => some (Value.int x5, h4)) r1).trans ?_
      rfl
    · rw [eM, if_neg (fun z => by rw [lg_cmp_eq, z0, pk_lEQ b63 (by omega)] at z; omega), r2']
  · refine ⟨-2, h1, h2, ?_, ?_, INV_sm s12 L2 I⟩
    · have nf : findB (fun p => clB (tipS n W P SN) bound (2 ^ n - 1) p && decide (0 < w (2 ^ n - 1 - 2 ^ p))) (-2) 4 0 = -2 := by
        refine findB_none 4 0 (fun p h1 h2 => Bool.eq_false_iff.mpr (fun z => ?_))
        rw [Bool.and_eq_true] at z
        have z2 := of_decide_eq_true z.2
        have : w (2 ^ n - 1 - 2 ^ p) ≤ w (2 ^ n - 1) := by
          have hp4 : p < n := by
            apply Classical.byContradiction
            intro q
            rw [clB_hi hn (by omega) (by omega) (by omega)] at z
            cases z.1
          rw [ew' (2 ^ n - 1) (by omega)]
          unfold wyF
          have key : ∀ m, p < m → w (2 ^ n - 1 - 2 ^ p) ≤ sumN (fun p => if clB (tipS n W P SN) bound (2 ^ n - 1) p then w (2 ^ n - 1 - 2 ^ p) else 0) m := by
            intro m
            induction m with
            | zero => intro h; omega
            | succ m ih =>
              intro hm
              rw [sumN_s]
              by_cases q : p = m
              · subst q
                rw [if_pos z.1]
                omega
              · have := ih (by omega)
                omega
          have := key n hp4
          omega
        omega
      rw [eC, S_X1_goingOff L1 (d + 8), g1.2.1, S_X1_goingOff_7 L1 (d + 8), if_pos (nI_pos' (n := i) (by omega)), if_neg (nI_ne0 (by omega) (by omega)), cn _ (by omega), cI_some, nf, if_pos rfl, cI_some]
    · rw [eM, if_pos (by rw [lg_cmp_eq, z0, pk_lEQ b63 (by omega)]; omega)]
