--deps:19.lay 21.facts 22.00.names 22.01.eq 22.02.eq 22.03.eq 22.04.eq 22.05.eq 22.06.eq 22.07.eq 22.08.eq 22.09.eq 22.10.eq 22.11.eq 22.12.eq 22.13.eq 22.14.eq 22.15.eq 22.16.eq 22.17.eq 22.18.eq 22.19.eq 22.20.eq 22.21.eq 22.22.eq 22.23.eq 23.num 24.town 25.evc 26.evm 27.law 28.says 29.inv 30.api1 31.copy 32.api2 33.api3 34.api4 35.api5 36.deeds 37.hours 38.mdeeds 39.mhours 40.hist 41.full 42.acts 43.acts2 44.played 45.undo 46.trial 47.sets 48.sets2 49.image 50.ask 51.swap 52.level 60.bfs 61.seek 62.explore
/-! THE REFERENCE SPREADS; WHERE -/
set_option linter.unusedSectionVars false
theorem BI_lv {m N : Nat} {E : Nat → Nat → Option Nat} {q key lv : Nat → Nat} {len T : Nat} (b : BI m N E q key lv len T) : ∀ i, i < len → lv i ≤ i := by
  intro i
  induction i using Nat.strongRecOn with
  | ind i ih =>
    intro hi
    by_cases c : i < m
    · rw [b.2.1.1 i c]; omega
    · obtain ⟨-, h2, -, h4⟩ := b.2.1.2 i (by omega) hi
      have := ih _ h2 (by omega)
      omega
theorem GO_EG {n : Nat} {w : Bool} {gd : Nat → Bool} {x g : Nat} (hg : g < cond w 58 10) : GO n gd x g = EG n w gd x g := by
  unfold EG
  by_cases c : g < cond w 58 8
  · rw [if_pos c]; rfl
  · rw [if_neg c]
    cases w with
    | true => exact absurd hg c
    | false =>
      have h1 : g < 10 := hg
      have h2 : ¬ g < 8 := c
      unfold GO ldT
      rw [if_neg h2, if_pos h1]
      rfl
section spread
variable {n : Nat} {W P : Nat → Nat} {R : (Nat → Nat) × Nat × Nat × Nat × (Nat → Int32)} {dt ds : Option Den} {gd : Nat → Bool} {k : MH}
theorem m_good (L : lay k) (d : Nat) (mk : MTh true k n W (P, R)) (rl : rlM k (gI k 68 3) dt ds) (hgd : ∀ y, gd y = stl n W (dg n y P) R.1 R.2.1 dt) : ∃ k', F_X11_layGood (d + 10) k = some (.int 0, k') ∧ lay k' ∧ sm (67 :: 68 :: SCR) k k' ∧ gI k' 68 = gI k 68 ∧ gI k' 67 = gI k 67 ∧ ∀ y, y < 9 ^ n → gI k' 79 y = bz (gd y) := by
  have hn := mk.1
  have n9 := pow9 n (by omega)
  have hP : ∀ p, p < n → P p ≤ 8 := fun p hp => (mk.2.2.2.1 p (by omega)).2
  have st9 := stN_lt hP
  rw [S_X11_layGood L (d + 9), m_standNow L (d + 8) (MQ_mdl mk), cI_some]
  dsimp only
  obtain ⟨k', ⟨⟨Q, tq, q1⟩, L', s', g', j', a'⟩, e⟩ := loop_rel (n := 9 ^ n) (σ := MH) (I := fun i z => (∃ Q, MTh false z n W (Q, R) ∧ ∀ p, n ≤ p → Q p = P p) ∧ lay z ∧ sm (67 :: 68 :: SCR) k z ∧ gI z 67 = gI k 67 ∧ (∀ j, ¬ (9 ≤ j ∧ j < 13) → gI z 68 j = gI k 68 j) ∧ ∀ y, y < i → gI z 79 y = bz (gd y)) (G := fun i z => G_X11_layGood_5 (d + 9) (nI (stN n P)) (nI i) z) (s := k) (fun i z hi ⟨⟨Q, tq, q1⟩, Lz, sz, gz, jz, az⟩ => by
    obtain ⟨z1, e1, t1, f1, g1, j1⟩ := m_standSo Lz (d + 8) tq (k := i) (by omega)
    have s1 : sm (67 :: 68 :: SCR) k z1 := sm_trans sz (sm_mono f1.1 (by decide))
    have rl1 : rlM z1 (gI z1 68 3) dt ds := by
      rw [j1 3 (by omega), jz 3 (by omega)]
      exact rlM_sm' s1 (by decide) rl
    obtain ⟨z2, e2, s2⟩ := m_isFar f1.2.1 d (MQ_mdl t1) t1.2.2.2.2.2.1.1 t1.2.2.2.2.2.1.2 rl1
    rw [bI_stlN] at e2
    have L2 := lay_F e2 f1.2.1 rfl
    have g68 : gI z2 68 = gI z1 68 := sm_gI s2 (by decide) (by decide)
    have g67 : gI z2 67 = gI z1 67 := sm_gI s2 (by decide) (by decide)
    have g79 : gI z2 79 = gI z 79 := (sm_gI s2 (by decide) (by decide)).trans (sm_gI f1.1 (by decide) (by decide))
    have eg : stl n W (dg n i Q) R.1 R.2.1 dt = gd i := by rw [dg_eq q1, hgd i]
    have L3 : lay (sI z2 79 i (bz (gd i))) := layI L2 (by decide)
    refine ⟨sI z2 79 i (bz (gd i)), ⟨⟨dg n i Q, ?_, fun p hp => ?_⟩, L3, sm_trans s1 (sm_trans (sm_mono s2 (by decide)) (sm_sI (by decide))), ?_, fun j hj => ?_, fun y hy => ?_⟩, ?_⟩
    · unfold MTh
      rw [gI_sIo _ _ _ _ _ (by decide), g68]
      exact t1
    · unfold dg
      rw [if_neg (by omega)]
      exact q1 p hp
    · rw [gI_sIo _ _ _ _ _ (by decide), g67, g1, gz]
    · rw [gI_sIo _ _ _ _ _ (by decide), g68, j1 j hj, jz j hj]
    · rw [gI_sIs, g79]
      by_cases c : y = i
      · subst c; rw [up_s]
      · rw [up_o _ _ c]; exact az y (by omega)
    · show G_X11_layGood_5 _ _ _ _ = G_X11_layGood_5 _ _ _ _
      rw [S_X11_layGood_5 Lz (d + 9), tq.2.1, m_nines Lz (d + 8) hn, cI_some, if_pos (nI_lt hi (by omega)), e1, cV_some, e2, cI_some]
      dsimp only
      rw [eg, S_X11_layGood_24 L2 (d + 9), S_X11_layGood_24 L2 (d + 9), ck_pos ⟨ib_nI (by omega) (by omega), Or.inr rfl⟩, ck_pos ⟨ib_nI (by omega) (by omega), Or.inl rfl⟩, lt_def, lt_def, ix_nI (by omega), nI_1]
      cases gd i with
      | false => rw [if_neg (by decide)]; rfl
      | true => rw [if_pos (by decide)]; rfl) ⟨⟨P, MTa_f mk, fun _ _ => rfl⟩, L, sm_refl _ _, rfl, fun _ _ => rfl, fun y hy => by omega⟩
  obtain ⟨z1, e1, t1, f1, g1, j1⟩ := m_standSo L' (d + 8) tq (k := stN n P) (by omega)
  have et : dg n (stN n P) Q = P := dg_st hP Q q1
  dsimp only at t1
  rw [et] at t1
  refine ⟨z1, ?_, f1.2.1, sm_trans s' (sm_mono f1.1 (by decide)), ?_, g1.trans g', fun y hy => by rw [sm_gI f1.1 (by decide) (by decide)]; exact a' y hy⟩
  · refine (show G_X11_layGood_5 (d + 9) (nI (stN n P)) 0 k = _ from e).trans ?_
    rw [S_X11_layGood_5 L' (d + 9), tq.2.1, m_nines L' (d + 8) hn, cI_some, if_neg (nI_nlt (Nat.le_refl _) (by omega)), e1, cV_some]
  · funext j
    by_cases q : 9 ≤ j ∧ j < 13
    · rw [show j = 9 + (j - 9) by omega, (t1.2.2.2.1 (j - 9) (by omega)).1, (mk.2.2.2.1 (j - 9) (by omega)).1]
    · rw [j1 j q, j' j q]
/-- the heap while it spreads -/
def MSI (k : MH) (n : Nat) (q lv : Nat → Nat) (len : Nat) (z : MH) : Prop := (lay z ∧ sm [77, 78] k z) ∧ (∀ i, i < len → gI z 78 i = nI (q i) ∧ gI z 77 (q i) = nI (lv i)) ∧ ∀ y, y < 9 ^ n → (∀ i, i < len → ¬ q i = y) → gI z 77 y = -1
theorem m_going (d : Nat) {SN : Nat → Nat} (m : mdl k n W P SN) (a79 : ∀ y, y < 9 ^ n → gI k 79 y = bz (gd y)) {w : Bool} {m0 : Nat} {q key lv : Nat → Nat} {len hd g : Nat} {z : MH} {l1 : Int32} {o6 : Option Value} (b : BI m0 (9 ^ n) (EG n w gd) q key lv len (64 * hd + g)) (c : MSI k n q lv len z) (hh : hd < len) (hg : g < cond w 58 10) :
    ∃ q' key' lv' len' z' o', G_X11_spread_9 (d + 4) l1 (nI (cond w 58 10)) (nI len) (nI hd) (nI g) o6 z = G_X11_spread_9 (d + 4) l1 (nI (cond w 58 10)) (nI len') (nI hd) (nI (g + 1)) o' z' ∧ BI m0 (9 ^ n) (EG n w gd) q' key' lv' len' (64 * hd + (g + 1)) ∧ MSI k n q' lv' len' z' ∧ len ≤ len' ∧ (∀ i, i < len → q' i = q i) := by
  have hn := m.1
  have n9 := pow9 n (by omega)
  have g58 : g < 58 := by cases w <;> simp only [cond_true, cond_false] at hg <;> omega
  have cw : cond w 58 10 < 2 ^ 31 := by cases w <;> decide
  have hx : q hd < 9 ^ n := b.1.2.2.1 hd hh
  have e1 : (64 * hd + g) / 64 = hd := by omega
  have e2' : (64 * hd + g) % 64 = g := by omega
  have hT : 64 * hd + g < 64 * len := by omega
  have l1' := BI_len b
  have lvb := BI_lv b
  obtain ⟨⟨Lz, sz⟩, tr, un⟩ := id c
  have mz : mdl z n W P SN := by
    unfold mdl
    rw [sm_gI sz (a := 68) (by decide) (by decide)]
    exact m
  have a79z : ∀ y, y < 9 ^ n → gI z 79 y = bz (gd y) := by
    rw [sm_gI sz (a := 79) (by decide) (by decide)]
    exact a79
  have bN : EG n w gd (q hd) g = none → BI m0 (9 ^ n) (EG n w gd) q key lv len (64 * hd + (g + 1)) := by
    intro en
    have := BI_none b hT (by rw [e1, e2']; exact en)
    exact this
  have bO : ∀ y i, EG n w gd (q hd) g = some y → i < len → q i = y → BI m0 (9 ^ n) (EG n w gd) q key lv len (64 * hd + (g + 1)) := by
    intro y i en hi ei
    have := BI_old b hT (y := y) (by rw [e1, e2']; exact en) hi ei
    exact this
  rw [S_X11_spread_9 Lz (d + 4), if_pos (nI_lt hg cw), ck_pos (ib_nI (by omega) (by omega)), ix_nI (by omega), (tr hd hh).1, m_gone Lz d mz a79z hx g58, cI_some, GO_EG hg]
  cases eE : EG n w gd (q hd) g with
  | none =>
    rw [if_pos (show onI none = -1 from rfl)]
    exact ⟨q, key, lv, len, z, _, by rw [S_X11_spread_49 Lz (d + 4), nI_1], bN eE, c, Nat.le_refl _, fun _ _ => rfl⟩
  | some y =>
    have hy := ldT_lt hn hx (EG_gd eE).2.2
    rw [if_neg (show ¬ onI (some y) = -1 from nI_m1 (by omega)), show onI (some y) = nI y from rfl, ck_pos (ib_nI (by omega) (by omega)), ix_nI (by omega)]
    by_cases inq : ∃ i, i < len ∧ q i = y
    · obtain ⟨i, hi, ei⟩ := inq
      have ne : ¬ gI z 77 y = -1 := by
        rw [← ei, (tr i hi).2]
        have := lvb i hi
        exact nI_m1 (by omega)
      rw [if_neg ne]
      exact ⟨q, key, lv, len, z, _, by rw [S_X11_spread_49 Lz (d + 4), nI_1], bO y i eE hi ei, c, Nat.le_refl _, fun _ _ => rfl⟩
    · have nq : ∀ i, i < len → ¬ q i = y := fun i hi e => inq ⟨i, hi, e⟩
      have bn := BI_new b hT (y := y) (by rw [e1, e2']; exact eE) hy nq
      have hl := BI_len bn
      rw [e1] at bn
      rw [if_pos (un y hy nq), ck_pos (ib_nI (by omega) (by omega)), ck_pos (ib_nI (by omega) (by omega)), (tr hd hh).1, ck_pos (ib_nI (by omega) (by omega)), ix_nI (show q hd < 2 ^ 31 by omega), (tr hd hh).2, nI_1, lt_def, ck_pos (ib_nI (by omega) (by omega)), lt_def, ix_nI (by omega), nI_1]
      have L2 : lay (sI (sI z 77 y (nI (lv hd + 1))) 78 len (nI y)) := layI (layI Lz (by decide)) (by decide)
      refine ⟨_, _, _, _, sI (sI z 77 y (nI (lv hd + 1))) 78 len (nI y), _, by rw [S_X11_spread_49 L2 (d + 4), nI_1], bn, ⟨⟨L2, sm_trans sz (sm_trans (sm_sI (by decide)) (sm_sI (by decide)))⟩, fun i hi => ?_, fun u hu nu => ?_⟩, by omega, fun i hi => up_o q _ (by omega)⟩
      · rw [gI_sIs, gI_sIo _ 78 _ 77 _ (by decide), gI_sIs, gI_sIo _ 77 _ 78 _ (by decide)]
        by_cases e : i = len
        · subst e
          rw [up_s, up_s, up_s, up_s]
          exact ⟨rfl, rfl⟩
        · rw [up_o _ _ e, up_o q _ e, up_o _ _ (nq i (by omega)), up_o lv _ e]
          exact tr i (by omega)
      · rw [gI_sIo _ 78 _ 77 _ (by decide), gI_sIs]
        have uy : ¬ u = y := fun e => nu len (by omega) (by rw [up_s, e])
        rw [up_o _ _ uy]
        exact un u hu (fun i hi e => nu i (by omega) (by rw [up_o q _ (show ¬ i = len by omega)]; exact e))
theorem m_spread4 (d : Nat) {SN : Nat → Nat} (m : mdl k n W P SN) (a79 : ∀ y, y < 9 ^ n → gI k 79 y = bz (gd y)) {w : Bool} {m0 : Nat} {l1 : Int32} : ∀ j hd q key lv len z o5 o6, hd + j = 9 ^ n → hd ≤ len → BI m0 (9 ^ n) (EG n w gd) q key lv len (64 * hd) → MSI k n q lv len z →
    ∃ q' key' lv' len' z', G_X11_spread_4 (d + 4) l1 (nI (cond w 58 10)) (nI len) (nI hd) o5 o6 z = some (.int (nI len'), z') ∧ BI m0 (9 ^ n) (EG n w gd) q' key' lv' len' (64 * len') ∧ MSI k n q' lv' len' z' ∧ len ≤ len' ∧ (∀ i, i < len → q' i = q i) := by
  have hn := m.1
  have n9 := pow9 n (by omega)
  have cw : cond w 58 10 < 2 ^ 31 := by cases w <;> decide
  intro j
  induction j with
  | zero =>
    intro hd q key lv len z o5 o6 hm hl b c
    have h1 := BI_len b
    have e : hd = len := by omega
    subst e
    refine ⟨q, key, lv, hd, z, ?_, b, c, Nat.le_refl _, fun _ _ => rfl⟩
    rw [S_X11_spread_4 c.1.1 (d + 4), if_neg (nI_nlt (Nat.le_refl _) (by omega))]
  | succ j ih =>
    intro hd q key lv len z o5 o6 hm hl b c
    have h1 := BI_len b
    by_cases hh : hd < len
    · obtain ⟨⟨q', key', lv', len', z', o'⟩, ⟨b', c', l', s'⟩, e⟩ := loop_rel (n := cond w 58 10) (σ := (Nat → Nat) × (Nat → Nat) × (Nat → Nat) × Nat × MH × Option Value) (I := fun i st => BI m0 (9 ^ n) (EG n w gd) st.1 st.2.1 st.2.2.1 st.2.2.2.1 (64 * hd + i) ∧ MSI k n st.1 st.2.2.1 st.2.2.2.1 st.2.2.2.2.1 ∧ len ≤ st.2.2.2.1 ∧ ∀ i, i < len → st.1 i = q i) (G := fun i st => G_X11_spread_9 (d + 4) l1 (nI (cond w 58 10)) (nI st.2.2.2.1) (nI hd) (nI i) st.2.2.2.2.2 st.2.2.2.2.1) (s := (q, key, lv, len, z, o6)) (fun i st hi ⟨bi, ci, li, si⟩ => by
        obtain ⟨q1, key1, lv1, len1, z1, o1, e1, b1, c1, l1, s1⟩ := m_going (l1 := l1) (o6 := st.2.2.2.2.2) d m a79 bi ci (show hd < st.2.2.2.1 by omega) hi
        exact ⟨(q1, key1, lv1, len1, z1, o1), ⟨b1, c1, Nat.le_trans li l1, fun j hj => by rw [← si j hj]; exact s1 j (by omega)⟩, e1⟩) ⟨b, c, Nat.le_refl _, fun _ _ => rfl⟩
      dsimp only at b' c' l' s' e
      have b2 : BI m0 (9 ^ n) (EG n w gd) q' key' lv' len' (64 * (hd + 1)) := by
        have := BI_skip b' (64 - cond w 58 10) (by cases w <;> simp only [cond_true, cond_false] <;> omega) (fun t h1 h2 => by
          unfold EG
          cases w with
          | true =>
            have h1' : 64 * hd + 58 ≤ t := h1
            have h2' : t < 64 * hd + 58 + 6 := h2
            rw [if_neg (show ¬ t % 64 < cond true 58 8 by show ¬ t % 64 < 58; omega)]
          | false =>
            have h1' : 64 * hd + 10 ≤ t := h1
            have h2' : t < 64 * hd + 10 + 54 := h2
            rw [if_neg (show ¬ t % 64 < cond false 58 8 by show ¬ t % 64 < 8; omega)])
        have e64 : 64 * hd + cond w 58 10 + (64 - cond w 58 10) = 64 * (hd + 1) := by cases w <;> simp only [cond_true, cond_false] <;> omega
        rw [e64] at this
        exact this
      obtain ⟨q2, key2, lv2, len2, z2, e2, b3, c3, l3, s3⟩ := ih (hd + 1) q' key' lv' len' z' (some (.int (nI (cond w 58 10)))) o' (by omega) (by omega) b2 c'
      refine ⟨q2, key2, lv2, len2, z2, ?_, b3, c3, by omega, fun i hi => by rw [s3 i (by omega)]; exact s' i hi⟩
      rw [S_X11_spread_4 c.1.1 (d + 4), if_pos (nI_lt hh (by omega))]
      refine (show G_X11_spread_9 (d + 4) l1 (nI (cond w 58 10)) (nI len) (nI hd) 0 o6 z = _ from e).trans ?_
      rw [S_X11_spread_9 c'.1.1 (d + 4), if_neg (nI_nlt (Nat.le_refl _) cw), nI_1, e2]
    · have e : hd = len := by omega
      subst e
      refine ⟨q, key, lv, hd, z, ?_, b, c, Nat.le_refl _, fun _ _ => rfl⟩
      rw [S_X11_spread_4 c.1.1 (d + 4), if_neg (nI_nlt (Nat.le_refl _) (by omega))]
theorem m_top (L : lay k) (d : Nat) {a : Int32} {w : Bool} (ew : w = !(decide (a = 0))) : F_X11_top (d + 1) a k = some (.int (nI (cond w 58 10)), k) := by
  rw [S_X11_top L d]
  by_cases a0 : a = 0
  · rw [if_pos a0]
    rw [decide_eq_true a0] at ew
    subst ew
    rfl
  · rw [if_neg a0]
    rw [decide_eq_false a0] at ew
    subst ew
    rfl
theorem MT_z {k z : MH} (s : sm [77, 78] k z) {w : Bool} {s0 : TS} (t : MTh w k n W s0) : MTh w z n W s0 := by
  unfold MTh
  rw [sm_gI s (a := 68) (by decide) (by decide)]
  exact t
theorem m_where (L : lay k) (d : Nat) (mk : MTh true k n W (P, R)) (rl : rlM k (gI k 68 3) dt ds) (hgd : ∀ y, gd y = stl n W (dg n y P) R.1 R.2.1 dt) {a : Int32} {w : Bool} (ew : w = !(decide (a = 0))) : ∃ q key lv len k', F_X11_where (d + 11) a k = some (.int (nI len), k') ∧ BI 1 (9 ^ n) (EG n w gd) q key lv len (64 * len) ∧ q 0 = stN n P ∧ lay k' ∧ sm (67 :: 68 :: SCR) k k' ∧ gI k' 68 = gI k 68 ∧ gI k' 67 = gI k 67 := by
  have hn := mk.1
  have n9 := pow9 n (by omega)
  have hP : ∀ p, p < n → P p ≤ 8 := fun p hp => (mk.2.2.2.1 p (by omega)).2
  have st9 := stN_lt hP
  obtain ⟨k1, e1, L1, s1, g68, g67, a79⟩ := m_good L d mk rl hgd
  have mk1 : MTh true k1 n W (P, R) := by
    unfold MTh
    rw [g68]
    exact mk
  obtain ⟨z, ⟨Lz, sz, fz⟩, e⟩ := loop_rel (n := 9 ^ n) (σ := MH) (I := fun i z => lay z ∧ sm [77, 78] k1 z ∧ ∀ y, y < i → gI z 77 y = -1) (G := fun i z => G_X11_where_4 (d + 10) a (nI i) z) (s := k1) (fun i z hi ⟨Lz, sz, fz⟩ => by
    refine ⟨sI z 77 i (-1), ⟨layI Lz (by decide), sm_trans sz (sm_sI (by decide)), fun y hy => ?_⟩, ?_⟩
    · rw [gI_sIs]
      by_cases c : y = i
      · subst c; rw [up_s]
      · rw [up_o _ _ c]; exact fz y (by omega)
    · show G_X11_where_4 _ _ _ _ = G_X11_where_4 _ _ _ _
      rw [S_X11_where_4 Lz (d + 10), (MT_z sz mk1).2.1, m_nines Lz (d + 9) hn, cI_some, if_pos (nI_lt hi (by omega)), ck_pos (ib_nI (by omega) (by omega)), lt_def, ix_nI (by omega), nI_1]) ⟨L1, sm_refl _ _, fun y hy => by omega⟩
  have mz := MT_z sz mk1
  have s2 : sm [77, 78] k1 (sI z 78 0 (nI (stN n P))) := sm_trans sz (sm_sI (by decide))
  have L2 : lay (sI z 78 0 (nI (stN n P))) := layI Lz (by decide)
  have mz2 := MT_z s2 mk1
  have s3 : sm [77, 78] k1 (sI (sI z 78 0 (nI (stN n P))) 77 (stN n P) 0) := sm_trans s2 (sm_sI (by decide))
  have L3 : lay (sI (sI z 78 0 (nI (stN n P))) 77 (stN n P) 0) := layI L2 (by decide)
  have c0 : MSI k1 n (fun _ => stN n P) (fun _ => 0) 1 (sI (sI z 78 0 (nI (stN n P))) 77 (stN n P) 0) := by
    refine ⟨⟨L3, s3⟩, fun i hi => ?_, fun y hy ny => ?_⟩
    · have : i = 0 := by omega
      subst this
      rw [gI_sIs, up_s, gI_sIo _ 77 _ 78 _ (by decide), gI_sIs, up_s]
      exact ⟨rfl, rfl⟩
    · rw [gI_sIs, up_o _ _ (fun e => ny 0 (by omega) e.symm), gI_sIo _ 78 _ 77 _ (by decide)]
      exact fz y hy
  have b0 : BI 1 (9 ^ n) (EG n w gd) (fun _ => stN n P) (fun _ => 0) (fun _ => 0) 1 (64 * 0) := BI_0 (fun i hi => st9) (fun i j h1 h2 => by omega) (fun i hi => rfl)
  obtain ⟨q, key, lv, len, k', e4, b4, c4, l4, s4⟩ := m_spread4 (d + 5) (MQ_mdl mk1) a79 (l1 := 1) (9 ^ n) 0 _ _ _ _ _ none none (by omega) (by omega) b0 c0
  refine ⟨q, key, lv, len, k', ?_, b4, s4 0 (by omega), c4.1.1, sm_trans s1 (sm_mono c4.1.2 (by decide)), ?_, ?_⟩
  · rw [S_X11_where L (d + 10), e1, cV_some]
    refine (show G_X11_where_4 (d + 10) a 0 k1 = _ from e).trans ?_
    rw [S_X11_where_4 Lz (d + 10), mz.2.1, m_nines Lz (d + 9) hn, cI_some, if_neg (nI_nlt (Nat.le_refl _) (by omega)), m_standNow Lz (d + 9) (MQ_mdl mz), cI_some]
    dsimp only
    rw [lt_def, m_standNow L2 (d + 9) (MQ_mdl mz2), cI_some]
    dsimp only
    rw [ck_pos (ib_nI (by omega) (by omega)), lt_def, ix_nI (by omega), m_top L3 (d + 9) ew, cI_some, S_X11_spread L3 (d + 9)]
    rw [show G_X11_spread_4 (d + 9) 1 (nI (cond w 58 10)) 1 0 none none (sI (sI z 78 0 (nI (stN n P))) 77 (stN n P) 0) = _ from e4, cI_some]
  · rw [sm_gI c4.1.2 (a := 68) (by decide) (by decide), g68]
  · rw [sm_gI c4.1.2 (a := 67) (by decide) (by decide), g67]
end spread
theorem A_where {c : Nat} {h : MH} (I : INV c h) (d : Nat) (a : Int32) : AGI c (F_X10_where (d + 11) a) (F_X11_where (d + 11) a) h := by
  have L := I.1
  obtain ⟨_, ⟨n, W, P, SN, H, X, wr, tn, N, K⟩, M, R⟩ := id I
  have t := NOW_CT N
  obtain ⟨dt, ds, rc, rm⟩ := NOW_rl N
  obtain ⟨h1, e1, t1, rl1, s1, L1, g1⟩ := c_trial L (d + 9) t rc
  generalize hgf : (fun y => stl n W (dg n y P) SN H dt) = gd
  have hgd : ∀ y, gd y = stl n W (dg n y P) SN H dt := fun y => by rw [← hgf]
  generalize hw : (!(decide (a = 0))) = w
  obtain ⟨q, key, lv, len, h2, hd, e2, b2, c2, -, q2, f2⟩ := c_explore (h := h) (gl := gI h1 46) (W := W) (P := P) (R := (SN, H, X, wr, gI h 15)) (d + 4) (a := a) (l3 := 0) hw.symm hgd L1 s1 t1 rl1 (fun _ _ => rfl)
  have f2' : hd = len := f2.elim id (fun w => absurd rfl w.1)
  subst f2'
  have N2 := NOW_sm c2.1.2 N
  have I2 := INV_sm c2.1.2 c2.1.1 I
  have rm2 : rlM h2 (gI h2 68 3) dt ds := rlM_sm c2.1.2 rm
  obtain ⟨q', key', lv', len', k', e3, b3, q3, L3, s3, g68, g67⟩ := m_where (R := (SN, H, X, wr, gI h2 15)) c2.1.1 d (NOW_MQ N2) rm2 hgd hw.symm
  have el := BI_same b2 b3 (q2.trans q3.symm)
  refine ⟨nI hd, h2, k', ?_, by rw [e3, el], INV_67 s3 L3 g68 (fun j _ => by rw [g67]) I2⟩
  rw [S_X10_where L (d + 10), e1, cV_some, e2, cV_some, c2.2.2.1.1]
