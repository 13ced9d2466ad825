--deps:19.lay 21.facts 22.00.names 22.01.eq 22.02.eq 22.03.eq 22.04.eq 22.05.eq 22.06.eq 22.07.eq 22.08.eq 22.09.eq 22.10.eq 22.11.eq 22.12.eq 22.13.eq 22.14.eq 22.15.eq 22.16.eq 22.17.eq 22.18.eq 22.19.eq 22.20.eq 22.21.eq 22.22.eq 22.23.eq 23.num 24.town 25.evc 26.evm 27.law 28.says 29.inv 30.api1 31.copy 32.api2 33.api3 34.api4 35.api5 36.deeds 37.hours 38.mdeeds 39.mhours 40.hist 41.full 42.acts 43.acts2 44.played 45.undo 46.trial 47.sets 48.sets2 49.image 50.ask 51.swap
/-! LEVEL -/
set_option linter.unusedSectionVars false
theorem tipZ_congr {n : Nat} {W P Q SN : Nat → Nat} (h : ∀ p, p < n → P p = Q p) : tipZ n W P SN = tipZ n W Q SN := by
  unfold tipZ
  rw [sumZ_congr (fun i hi => by rw [h i hi])]
theorem dg_lo {n k : Nat} {P Q : Nat → Nat} : ∀ p, p < n → dg n k P p = dg n k Q p := by
  intro p hp
  unfold dg
  rw [if_pos hp, if_pos hp]
def cntB (f : Nat → Bool) (k : Nat) : Nat := sumN (fun c => if f c then 1 else 0) k
theorem cntB_le (f : Nat → Bool) (k : Nat) : cntB f k ≤ 1 * k := sumN_le (fun i _ => by split <;> omega)
theorem cntB_mono (f : Nat → Bool) {i k : Nat} (h : i ≤ k) : cntB f i ≤ cntB f k := by
  induction k with
  | zero => rw [show i = 0 by omega]; exact Nat.le_refl _
  | succ k ih =>
    by_cases e : i = k + 1
    · rw [e]; exact Nat.le_refl _
    · have := ih (by omega)
      unfold cntB at *
      rw [sumN_s]
      omega
def fndB (f : Nat → Bool) (a : Int32) : Nat → Int32
  | 0 => -2
  | k + 1 => if f k = true ∧ nI (cntB f k) = a then nI k else fndB f a k
def clsB (f : Nat → Bool) (a : Int32) : Nat → Nat → Int32
  | 0, i => if a = -1 then nI (cntB f i) else -2
  | m + 1, i => if f i = true ∧ nI (cntB f i) = a then nI i else clsB f a m (i + 1)
theorem fnd_none {f : Nat → Bool} {a : Int32} : ∀ i, (∀ k, k < i → ¬ (f k = true ∧ nI (cntB f k) = a)) → fndB f a i = -2 := by
  intro i
  induction i with
  | zero => intro _; rfl
  | succ i ih =>
    intro h
    rw [fndB, if_neg (h i (by omega))]
    exact ih (fun k hk => h k (by omega))
theorem fnd_hit {f : Nat → Bool} {a : Int32} {i : Nat} (hi : f i = true ∧ nI (cntB f i) = a) : ∀ N, N < 2 ^ 30 → i < N → fndB f a N = nI i := by
  intro N
  induction N with
  | zero => intro _ h; omega
  | succ N ih =>
    intro hN h
    rw [fndB]
    by_cases e : N = i
    · subst e; rw [if_pos hi]
    · have hc : cntB f i + 1 ≤ cntB f N := by
        have h1 : cntB f (i + 1) = cntB f i + 1 := by
          unfold cntB
          rw [sumN_s, if_pos hi.1]
        have := cntB_mono f (i := i + 1) (k := N) (by omega)
        omega
      have hb := cntB_le f N
      rw [if_neg, ih (by omega) (by omega)]
      rintro ⟨-, q⟩
      have := (nI_eq (a := cntB f N) (b := cntB f i) (by omega) (by omega)).mp (q.trans hi.2.symm)
      omega
theorem cls_fnd {f : Nat → Bool} {a : Int32} {N : Nat} (hN : N < 2 ^ 30) : clsB f a N 0 = if a = -1 then nI (cntB f N) else fndB f a N := by
  by_cases a1 : a = -1
  · rw [if_pos a1]
    have key : ∀ m i, i + m = N → clsB f a m i = nI (cntB f N) := by
      intro m
      induction m with
      | zero => intro i hi; rw [clsB, if_pos a1, show i = N by omega]
      | succ m ih =>
        intro i hi
        have hb := cntB_le f i
        rw [clsB, if_neg, ih (i + 1) (by omega)]
        rintro ⟨-, q⟩
        rw [a1] at q
        exact nI_m1 (by omega) q
    exact key N 0 (by omega)
  · rw [if_neg a1]
    have key : ∀ m i, i + m = N → (∀ k, k < i → ¬ (f k = true ∧ nI (cntB f k) = a)) → clsB f a m i = fndB f a N := by
      intro m
      induction m with
      | zero =>
        intro i hi h
        rw [clsB, if_neg a1, ← show i = N by omega, fnd_none i h]
      | succ m ih =>
        intro i hi h
        rw [clsB]
        by_cases q : f i = true ∧ nI (cntB f i) = a
        · rw [if_pos q, fnd_hit q N hN (by omega)]
        · rw [if_neg q]
          refine ih (i + 1) (by omega) (fun k hk => ?_)
          by_cases e : k = i
          · subst e; exact q
          · exact h k (by omega)
    exact key N 0 (by omega) (fun k hk => absurd hk (by omega))
theorem A_level {c : Nat} {h : MH} (I : INV c h) (d : Nat) (a : Int32) : AGI c (F_X10_level (d + 5) a) (F_X11_level (d + 5) a) h := by
  have L := I.1
  obtain ⟨_, ⟨n, W, P, SN, H, X, wr, tn, N, K⟩, M, R⟩ := id I
  have t := NOW_CT N
  have hn := t.1
  have hP : ∀ p, p < n → P p ≤ 8 := fun p hp => (t.2.2.2.1 p (by omega)).2
  have p9 := pow9 n (by omega)
  have st9 := stN_lt hP
  obtain ⟨dt, ds, rc, rm⟩ := NOW_rl N
  generalize hf : (fun k => decide (tipZ n W (dg n k P) SN = 0)) = f
  have hf' : ∀ k, f k = decide (tipZ n W (dg n k P) SN = 0) := fun k => by rw [← hf]
  have cb : ∀ k, k ≤ 6561 → cntB f k ≤ 6561 := fun k hk => by have := cntB_le f k; omega
  -- the model, from any heap that differs in scratch
  have md : ∀ k, lay k → sm SCR h k → ∃ k', F_X11_level (d + 5) a k = some (.int (if a = -1 then nI (cntB f (9 ^ n)) else fndB f a (9 ^ n)), k') ∧ INV c k' := by
    intro k Lk sk
    have Nk := NOW_sm sk N
    have Ik := INV_sm sk Lk I
    have mk := NOW_MQ Nk
    rw [S_X11_level Lk (d + 4), m_standNow Lk (d + 3) (NOW_m Nk), cI_some]
    have mk' := MTa_f mk
    obtain ⟨k', ⟨Q, tq, q1, f', g', j'⟩, e⟩ := loop_rel (n := 9 ^ n) (σ := MH) (I := fun _ z => ∃ Q, MTh false z n W (Q, SN, H, X, wr, gI k 15) ∧ (∀ p, n ≤ p → Q p = P p) ∧ MF false k z ∧ gI z 67 = gI k 67 ∧ ∀ j, ¬ (9 ≤ j ∧ j < 13) → gI z 68 j = gI k 68 j) (G := fun i z => G_X11_level_9 (d + 4) a (nI (stN n P)) (nI (cntB f i)) (fndB f a i) (nI i) z) (s := k) (fun i z hi ⟨Q, tq, q1, fz, gz, jz⟩ => by
      obtain ⟨z1, e1, t1, f1, g1, j1⟩ := m_standSo fz.2.1 (d + 3) tq (k := i) (by omega)
      refine ⟨z1, ⟨dg n i Q, t1, fun p hp => ?_, MF_trans fz f1, g1.trans gz, fun j hj => (j1 j hj).trans (jz j hj)⟩, ?_⟩
      · unfold dg
        rw [if_neg (by omega)]
        exact q1 p hp
      · show G_X11_level_9 _ _ _ _ _ _ _ = G_X11_level_9 _ _ _ _ _ _ _
        have hb := cb i (by omega)
        have ez : tipZ n W (dg n i Q) SN = tipZ n W (dg n i P) SN := tipZ_congr dg_lo
        have tb' := mdl_b (MQ_mdl t1)
        dsimp only at tb'
        rw [ez] at tb'
        rw [S_X11_level_9 fz.2.1 (d + 4), tq.2.1, m_nines fz.2.1 (d + 3) hn, cI_some, if_pos (nI_lt hi (by omega)), e1, cV_some, m_tipNow f1.2.1 (d + 1) (MQ_mdl t1), cI_some, S_X11_level_28 f1.2.1 (d + 4), S_X11_level_28 f1.2.1 (d + 4), S_X11_level_29 f1.2.1 (d + 4), S_X11_level_29 f1.2.1 (d + 4), S_X11_level_29 f1.2.1 (d + 4), nI_1, nI_1]
        dsimp only
        rw [ez]
        have e0 : zI (tipZ n W (dg n i P) SN) = 0 ↔ tipZ n W (dg n i P) SN = 0 := by
          rw [show (0 : Int32) = zI 0 by decide +kernel, zI_inj (by omega) (by omega)]
        have ec : cntB f (i + 1) = cntB f i + (if f i then 1 else 0) := rfl
        by_cases q : tipZ n W (dg n i P) SN = 0
        · have fi : f i = true := by rw [hf']; exact decide_eq_true q
          rw [if_pos (e0.mpr q), ec, if_pos fi, fndB]
          by_cases q2 : nI (cntB f i) = a
          · rw [if_pos q2, if_pos ⟨fi, q2⟩]
          · rw [if_neg q2, if_neg (fun w => q2 w.2)]
        · have fi : ¬ f i = true := by rw [hf', decide_eq_false q]; decide
          rw [if_neg (fun w => q (e0.mp w)), ec, if_neg fi, fndB, if_neg (fun w => fi w.1)]
          rfl) ⟨P, mk', fun _ _ => rfl, MF_refl Lk, rfl, fun _ _ => rfl⟩
    obtain ⟨z1, e1, t1, f1, g1, j1⟩ := m_standSo f'.2.1 (d + 3) tq (k := stN n P) (by omega)
    have et : dg n (stN n P) Q = P := dg_st hP Q q1
    dsimp only at t1
    rw [et] at t1
    have f2 := MF_trans f' f1
    refine ⟨z1, ?_, INV_67 (h := k) (sm_mono f2.1 (by decide)) f2.2.1 ?_ (fun j _ => by rw [g1, g']) Ik⟩
    · refine (show G_X11_level_9 (d + 4) a (nI (stN n P)) 0 (-2) 0 k = _ from e).trans ?_
      rw [S_X11_level_9 f'.2.1 (d + 4), tq.2.1, m_nines f'.2.1 (d + 3) hn, cI_some, if_neg (nI_nlt (Nat.le_refl _) (by omega)), e1, cV_some]
      split <;> rfl
    · funext j
      by_cases q : 9 ≤ j ∧ j < 13
      · rw [show j = 9 + (j - 9) by omega, (t1.2.2.2.1 (j - 9) (by omega)).1, (mk.2.2.2.1 (j - 9) (by omega)).1]
      · rw [j1 j q, j' j q]
  by_cases a2 : a < -1
  · obtain ⟨k', e', I'⟩ := md h L (sm_refl _ h)
    refine ⟨-2, h, k', by rw [S_X10_level L (d + 4), if_pos a2], ?_, I'⟩
    rw [e', if_neg (fun q => by rw [q] at a2; exact absurd a2 (by decide)), fnd_none _ (fun k hk w => ?_)]
    have hb := cb k (by omega)
    rw [← w.2] at a2
    exact absurd a2 (by
      intro z
      have : nI (cntB f k) < 0 := Int32.lt_trans z (by decide)
      exact nIz (by omega) this)
  · obtain ⟨h1, e1, t1, rl1, s1, L1, -⟩ := c_trial L (d + 3) t rc
    have lp : ∀ m i z, i + m = 9 ^ n → lay z → sm SCR h z → (∃ Q, CT z 43 n W (Q, SN, H, X, wr, gI h 15) ∧ (∀ p, n ≤ p → Q p = P p)) → ∃ z', G_X10_level_15 (d + 4) a (nI (cntB f i)) (nI i) z = some (.int (clsB f a m i), z') ∧ lay z' ∧ sm SCR h z' := by
      intro m
      induction m with
      | zero =>
        rintro i z hi Lz sz ⟨Q, tq, q1⟩
        have e43 : gI z 43 0 = nI n := tq.2.1
        rw [S_X10_level_15 Lz (d + 4), e43, ck_pos (ib_nI (by omega) (by omega)), ix_nI (by omega), Lz.2.2.2.2.1, mpw_9 n (by omega), if_neg (nI_nlt (by omega) (by omega)), clsB]
        refine ⟨z, ?_, Lz, sz⟩
        split <;> rfl
      | succ m ih =>
        rintro i z hi Lz sz ⟨Q, tq, q1⟩
        have e43 : gI z 43 0 = nI n := tq.2.1
        obtain ⟨z1, e1, t1, f1⟩ := c_standAs Lz (d + 3) tAt43 tq (k := i) (by omega)
        have sz1 : sm SCR h z1 := sm_trans sz (sm_mono f1.1 (by decide))
        have hb := cb i (by omega)
        have ez : tipZ n W (dg n i Q) SN = tipZ n W (dg n i P) SN := tipZ_congr dg_lo
        have tb' := twn_b (CT_twn t1)
        dsimp only at tb'
        rw [ez] at tb'
        have nx := ih (i + 1) z1 (by omega) f1.2.2 sz1 ⟨dg n i Q, t1, fun p hp => by unfold dg; rw [if_neg (by omega)]; exact q1 p hp⟩
        have ec : cntB f (i + 1) = cntB f i + (if f i then 1 else 0) := rfl
        rw [S_X10_level_15 Lz (d + 4), e43, ck_pos (ib_nI (by omega) (by omega)), ix_nI (by omega), Lz.2.2.2.2.1, mpw_9 n (by omega), if_pos (nI_lt (by omega) (by omega)), e1, cV_some, c_tipNow f1.2.2 (d + 3) tAt43 (CT_twn t1), cI_some, S_X10_level_36 f1.2.2 (d + 4), S_X10_level_36 f1.2.2 (d + 4), nI_1, nI_1, clsB]
        dsimp only
        rw [ez]
        have e0 : zI (tipZ n W (dg n i P) SN) = 0 ↔ tipZ n W (dg n i P) SN = 0 := by
          rw [show (0 : Int32) = zI 0 by decide +kernel, zI_inj (by omega) (by omega)]
        by_cases q : tipZ n W (dg n i P) SN = 0
        · have fi : f i = true := by rw [hf']; exact decide_eq_true q
          rw [if_pos (e0.mpr q)]
          rw [ec, if_pos fi] at nx
          by_cases q2 : nI (cntB f i) = a
          · rw [if_pos q2, if_pos ⟨fi, q2⟩]
            exact ⟨z1, rfl, f1.2.2, sz1⟩
          · rw [if_neg q2, if_neg (fun w => q2 w.2)]
            exact nx
        · have fi : ¬ f i = true := by rw [hf', decide_eq_false q]; decide
          rw [ec, if_neg fi, Nat.add_zero] at nx
          rw [if_neg (fun w => q (e0.mp w)), if_neg (fun w => fi w.1)]
          exact nx
    obtain ⟨h2, e2, L2, s2⟩ := lp (9 ^ n) 0 h1 (by omega) L1 s1 ⟨P, t1, fun _ _ => rfl⟩
    obtain ⟨k', e', I'⟩ := md h2 L2 s2
    refine ⟨_, h2, k', ?_, e', I'⟩
    rw [S_X10_level L (d + 4), if_neg a2, e1, cV_some]
    refine (show G_X10_level_15 (d + 4) a 0 0 h1 = _ from e2).trans ?_
    rw [cls_fnd (by omega)]
