--deps:19.lay 21.facts 22.00.names 22.01.eq 22.02.eq 22.03.eq 22.04.eq 22.05.eq 22.06.eq 22.07.eq 22.08.eq 22.09.eq 22.10.eq 22.11.eq 22.12.eq 22.13.eq 22.14.eq 22.15.eq 22.16.eq 22.17.eq 22.18.eq 22.19.eq 22.20.eq 22.21.eq 22.22.eq 22.23.eq 23.num 24.town 25.evc 26.evm 27.law 28.says 29.inv 30.api1 31.copy 32.api2 33.api3 34.api4 35.api5 36.deeds 37.hours 38.mdeeds 39.mhours 40.hist 41.full 42.acts 43.acts2 44.played 45.undo 46.trial 47.sets 48.sets2 49.image 50.ask 51.swap 52.level 53.crowd 54.crowd2 55.crowd3 56.share 57.hands 58.paid
/-! PAID, STAND -/
set_option linter.unusedSectionVars false
theorem ten_k : ∀ k, k ≤ 4 → 0 < 10 ^ k ∧ 10 ^ k ≤ 10000 := by decide
theorem m_areStands {h : MH} (L : lay h) (d : Nat) {n : Nat} {W P SN : Nat → Nat} (m : mdl h n W P SN) {k : Nat} {HW HG : Nat → Nat} (H : hndM h k HW HG) {c : Nat} (hc : c < 10000) : ∃ h', F_X11_areStands (d + 4) (nI c) h = some (.int (bz (decide (tipZ n W P SN + tpV HW (dc c) k = 0))), h') ∧ sm SCR h h' ∧ lay h' ∧ (∀ j, j < k → gI h' 80 j = nI (dc c j)) ∧ gI h' 81 = gI h 81 := by
  have hk := H.1
  have tb' := mdl_b m
  rw [S_X11_areStands L (d + 3), m_tipNow L d m, cI_some]
  generalize tipZ n W P SN = T at tb'
  have vb : ∀ i, i ≤ k → -36 * (i : Int) ≤ tpV HW (dc c) i ∧ tpV HW (dc c) i ≤ 36 * (i : Int) := by
    intro i hi
    have mb : ∀ a : Nat, a < 10 → ∀ p : Nat, p < 9 → -36 ≤ (a : Int) * ((p : Int) - 4) ∧ (a : Int) * ((p : Int) - 4) ≤ 36 := by decide +kernel
    unfold tpV
    exact sumZ_bd (fun j hj => by
      have w9 := (H.2.2 j (by omega)).1.2
      by_cases q : dc c j < 9
      · rw [if_pos q]; exact mb _ (by omega) _ q
      · rw [if_neg q]; omega)
  obtain ⟨g, ⟨Lg, sg, e8, e81⟩, e⟩ := loop_rel (n := k) (σ := MH) (I := fun i g => lay g ∧ sm SCR h g ∧ (∀ j, j < i → gI g 80 j = nI (dc c j)) ∧ gI g 81 = gI h 81) (G := fun i g => G_X11_areStands_7 (d + 3) (nI c) (nI (c / 10 ^ i)) (zI (T + tpV HW (dc c) i)) (nI i) g) (s := h) (fun i g hi ⟨Lg, sg, e8, e81⟩ => by
    have Hg := hndM_sm sg H
    obtain ⟨w1, w2⟩ := (Hg.2.2 i hi).1
    have l9 : c / 10 ^ i ≤ c := Nat.div_le_self _ _
    have d9 := dc_9 c i
    have L5 : lay (sI g 80 i (nI (dc c i))) := layI Lg (by decide)
    refine ⟨sI g 80 i (nI (dc c i)), ⟨L5, sm_trans sg (sm_sI (by decide)), fun j hj => ?_, by rw [gI_sIo _ _ _ _ _ (by decide), e81]⟩, ?_⟩
    · by_cases q : j = i
      · subst q; rw [gI_sIs, up_s]
      · rw [gI_sIs, up_o _ _ q]; exact e8 j (by omega)
    · show G_X11_areStands_7 _ _ _ _ _ _ = G_X11_areStands_7 _ _ _ _ _ _
      have er : nI (c / 10 ^ i) - nI (c / 10 ^ i) / 10 * 10 = nI (dc c i) := nIr (by omega) (by omega) (by omega)
      have ev : tpV HW (dc c) (i + 1) = tpV HW (dc c) i + (if dc c i < 9 then (HW i : Int) * ((dc c i : Int) - 4) else 0) := by unfold tpV; rw [sumZ_s]
      rw [S_X11_areStands_7 Lg (d + 3), Hg.2.1, if_pos (nI_lt hi (by omega)), ck_pos (ib_nI (by omega) (by omega)), lt_def, er, ix_nI (by omega), ck_pos (ib_nI (by omega) (by omega)), gI_sIs, up_s, nIm, nIa, ck_pos (ib_nI (by omega) (by omega)), ck_pos (ib_nI (by omega) (by omega)), ix_nI (by omega), gI_sIo _ _ _ 68 _ (by decide), w1, S_X11_areStands_48 L5 (d + 3), S_X11_areStands_48 L5 (d + 3), nI_1, nId (by omega) (by omega) (by omega), Nat.div_div_eq_div_mul, ← Nat.pow_succ, ev]
      by_cases q : dc c i < 9
      · rw [if_pos ((nIl (by omega) (by omega)).mpr q), if_pos q]
        congr 1
        simp only [nI_zI, lit_zI, zI_add, zI_mul, zI_sub, zI_neg, if_true, if_false, Bool.false_eq_true]
        congr 1
        rw [Int.add_assoc]
        rfl
      · rw [if_neg (fun z => q ((nIl (by omega) (by omega)).mp z)), if_neg q, Int.add_zero, Int32.add_zero]) ⟨L, sm_refl _ h, fun j hj => by omega, rfl⟩
  have v1 := vb k (Nat.le_refl _)
  have e0 : zI (T + tpV HW (dc c) k) = 0 ↔ T + tpV HW (dc c) k = 0 := by
    rw [show (0 : Int32) = zI 0 by decide +kernel, zI_inj (by omega) (by omega)]
  refine ⟨g, ?_, sg, Lg, e8, e81⟩
  have e' : G_X11_areStands_7 (d + 3) (nI c) (nI (c / 10 ^ 0)) (zI (T + tpV HW (dc c) 0)) (nI 0) h = _ := e
  have z0 : T + tpV HW (dc c) 0 = T := by show T + 0 = T; omega
  rw [Nat.pow_zero, Nat.div_one, z0] at e'
  refine (show G_X11_areStands_7 (d + 3) (nI c) (nI c) (zI T) 0 h = _ from e').trans ?_
  rw [S_X11_areStands_7 Lg (d + 3), (hndM_sm sg H).2.1, if_neg (nI_nlt (Nat.le_refl _) (by omega))]
  by_cases q : T + tpV HW (dc c) k = 0
  · rw [if_pos (e0.mpr q), decide_eq_true q]; rfl
  · rw [if_neg (fun z => q (e0.mp z)), decide_eq_false q]; rfl
theorem m_isPaid {c : Nat} {h : MH} (I : INV c h) (d : Nat) {n : Nat} {W P SN : Nat → Nat} {Hh X wr tn : Nat} (N : NOW h n W P SN Hh X wr tn) {k : Nat} {HW HG : Nat → Nat} (H : hndM h k HW HG) : ∃ h', F_X11_isPaid (d + 5) h = some (.int (oz (itr (bsS (tipZ n W P SN) HW HG k) none (10 ^ k))), h') ∧ sm SCR h h' ∧ lay h' ∧ (∀ b, itr (bsS (tipZ n W P SN) HW HG k) none (10 ^ k) = some b → ∀ j, j < k → gI h' 81 j = nI (dc b j)) := by
  have L := I.1
  have hk := H.1
  have t10 := ten_k k hk
  rw [S_X11_isPaid L (d + 4)]
  have l1 := loop_all (n := k) (F := fun i => G_X11_isPaid_6 (d + 4) 0 (nI (10 ^ i)) (nI i) h) (fun i hi => by
    show G_X11_isPaid_6 _ _ _ _ _ = _
    rw [S_X11_isPaid_6 L (d + 4), H.2.1, if_pos (nI_lt hi (by omega)), nIn, nI_1, ← Nat.pow_succ])
  have l1' : G_X11_isPaid_6 (d + 4) 0 1 0 h = _ := l1
  rw [l1', S_X11_isPaid_6 L (d + 4), H.2.1, if_neg (nI_nlt (Nat.le_refl _) (by omega))]
  obtain ⟨st, ⟨Lg, sg, eb⟩, e⟩ := loop_rel (n := 10 ^ k) (σ := Option Value × MH) (I := fun i st => lay st.2 ∧ sm SCR h st.2 ∧ ∀ b, itr (bsS (tipZ n W P SN) HW HG k) none i = some b → ∀ j, j < k → gI st.2 81 j = nI (dc b j)) (G := fun i st => G_X11_isPaid_20 (d + 4) (oz (itr (bsS (tipZ n W P SN) HW HG k) none i)) (nI (10 ^ k)) (nI i) st.1 st.2) (s := (none, h)) (fun i st hi ⟨Lg, sg, eb⟩ => by
    obtain ⟨g1, a1, a2, a3, a4, a5⟩ := m_areStands Lg d (NOW_m (NOW_sm sg N)) (hndM_sm sg H) (c := i) (by omega)
    have sg1 := sm_trans sg a2
    have H1 := hndM_sm sg1 H
    -- the standing kept
    have keep : ∀ o4 : Option Value, ∃ o4' g2, G_X11_isPaid_33 (d + 4) (oz (itr (bsS (tipZ n W P SN) HW HG k) none i)) (nI (10 ^ k)) (nI i) o4 g1 = G_X11_isPaid_20 (d + 4) 1 (nI (10 ^ k)) (nI (i + 1)) o4' g2 ∧ lay g2 ∧ sm SCR h g2 ∧ ∀ j, j < k → gI g2 81 j = nI (dc i j) := by
      intro o4
      rw [S_X11_isPaid_33 a3 (d + 4)]
      obtain ⟨g2, ⟨b1, b2, b3, b4⟩, ek⟩ := loop_rel (n := k) (σ := MH) (I := fun j g => lay g ∧ sm SCR h g ∧ (∀ x, x < k → gI g 80 x = nI (dc i x)) ∧ ∀ x, x < j → gI g 81 x = nI (dc i x)) (G := fun j g => G_X11_isPaid_37 (d + 4) 1 (nI (10 ^ k)) (nI i) (nI j) g) (s := g1) (fun j g hj ⟨b1, b2, b3, b4⟩ => by
        refine ⟨sI g 81 j (nI (dc i j)), ⟨layI b1 (by decide), sm_trans b2 (sm_sI (by decide)), fun x hx => by rw [gI_sIo _ _ _ _ _ (by decide)]; exact b3 x hx, fun x hx => ?_⟩, ?_⟩
        · by_cases q : x = j
          · subst q; rw [gI_sIs, up_s]
          · rw [gI_sIs, up_o _ _ q]; exact b4 x (by omega)
        · show G_X11_isPaid_37 _ _ _ _ _ _ = G_X11_isPaid_37 _ _ _ _ _ _
          rw [S_X11_isPaid_37 b1 (d + 4), (hndM_sm b2 H).2.1, if_pos (nI_lt hj (by omega)), ck_pos (ib_nI (by omega) (by omega)), ck_pos (ib_nI (by omega) (by omega)), lt_def, ix_nI (by omega), b3 j hj, nI_1]) ⟨a3, sg1, a4, fun x hx => by omega⟩
      refine ⟨some (.int (nI k)), g2, ?_, b1, b2, b4⟩
      refine (show G_X11_isPaid_37 (d + 4) 1 (nI (10 ^ k)) (nI i) 0 g1 = _ from ek).trans ?_
      rw [S_X11_isPaid_37 b1 (d + 4), (hndM_sm b2 H).2.1, if_neg (nI_nlt (Nat.le_refl _) (by omega)), S_X11_isPaid_53 b1 (d + 4), nI_1]
    have es : itr (bsS (tipZ n W P SN) HW HG k) none (i + 1) = bsS (tipZ n W P SN) HW HG k i (itr (bsS (tipZ n W P SN) HW HG k) none i) := rfl
    have bs : ∀ o, bsS (tipZ n W P SN) HW HG k i o = if tipZ n W P SN + tpV HW (dc i) k = 0 then (match o with
      | none => some i
      | some c => if keyN HG k (dc i) < keyN HG k (dc c) then some i else some c) else o := fun o => rfl
    have go : ∃ o4' g2, G_X11_isPaid_20 (d + 4) (oz (itr (bsS (tipZ n W P SN) HW HG k) none i)) (nI (10 ^ k)) (nI i) st.1 st.2 = G_X11_isPaid_20 (d + 4) (oz (itr (bsS (tipZ n W P SN) HW HG k) none (i + 1))) (nI (10 ^ k)) (nI (i + 1)) o4' g2 ∧ lay g2 ∧ sm SCR h g2 ∧ ∀ b, itr (bsS (tipZ n W P SN) HW HG k) none (i + 1) = some b → ∀ j, j < k → gI g2 81 j = nI (dc b j) := by
      rw [S_X11_isPaid_20 Lg (d + 4), if_pos (nI_lt hi (by omega)), a1, cI_some, es, bs]
      by_cases q : tipZ n W P SN + tpV HW (dc i) k = 0
      · rw [decide_eq_true q, if_neg bz1, if_pos q]
        obtain ⟨o4', g2, k1, k2, k3, k4⟩ := keep st.1
        cases ho : itr (bsS (tipZ n W P SN) HW HG k) none i with
        | none =>
          rw [ho] at k1
          rw [if_pos (show oz (none : Option Nat) = 0 from rfl), k1]
          exact ⟨o4', g2, rfl, k2, k3, fun b e => by cases e; exact k4⟩
        | some b0 =>
          have e81 : ∀ j, j < k → gI g1 81 j = nI (dc b0 j) ∧ dc b0 j ≤ 9 := fun j hj => ⟨by rw [a5]; exact eb b0 ho j hj, dc_9 b0 j⟩
          rw [ho] at k1
          rw [if_neg (oz1 b0), m_isBetter a3 (d + 1) H1 (s := dc i) (t := dc b0) (fun j hj => ⟨a4 j hj, dc_9 i j⟩) e81, cI_some]
          dsimp only
          by_cases x : keyN HG k (dc i) < keyN HG k (dc b0)
          · rw [decide_eq_true x, if_neg bz1, k1, if_pos x]
            exact ⟨o4', g2, rfl, k2, k3, fun b e => by cases e; exact k4⟩
          · rw [decide_eq_false x, if_pos (show bz false = 0 from rfl), S_X11_isPaid_53 a3 (d + 4), nI_1, if_neg x]
            exact ⟨st.1, g1, rfl, a3, sg1, fun b e => by cases e; exact fun j hj => (e81 j hj).1⟩
      · rw [decide_eq_false q, if_pos (show bz false = 0 from rfl), if_neg q, S_X11_isPaid_53 a3 (d + 4), nI_1]
        exact ⟨st.1, g1, rfl, a3, sg1, fun b e j hj => by rw [a5]; exact eb b e j hj⟩
    obtain ⟨o4', g2, k1, k2, k3, k4⟩ := go
    exact ⟨(o4', g2), ⟨k2, k3, k4⟩, k1⟩) ⟨L, sm_refl _ h, fun b e => by cases e⟩
  refine ⟨st.2, ?_, sg, Lg, eb⟩
  refine (show G_X11_isPaid_20 (d + 4) 0 (nI (10 ^ k)) 0 none h = _ from e).trans ?_
  rw [S_X11_isPaid_20 Lg (d + 4), if_neg (nI_nlt (Nat.le_refl _) (by omega)), ck_pos (mrt_oz _)]
theorem NOW_hands {h : MH} {n : Nat} {W P SN : Nat → Nat} {H X wr tn : Nat} (N : NOW h n W P SN H X wr tn) : ∃ k HW HG, hnd h k HW HG ∧ hndM h k HW HG := by
  obtain ⟨-, -, -, -, ⟨k, HW, HG, y1, y2, y3, y4⟩, -⟩ := N.1
  refine ⟨k, HW, HG, ⟨y1, y2, fun j hj => ?_⟩, ⟨y1, y3, fun j hj => ?_⟩⟩
  · obtain ⟨⟨a1, a2, a3, a4⟩, b1, b2, b3⟩ := y4 j hj
    exact ⟨⟨a1, a4⟩, b1, b3⟩
  · obtain ⟨⟨a1, a2, a3, a4⟩, b1, b2, b3⟩ := y4 j hj
    exact ⟨⟨a2, a4⟩, b2, b3⟩
theorem A_paid {c : Nat} {h : MH} (I : INV c h) (d : Nat) (a : Int32) : AGI c (F_X10_paid (d + 7) a) (F_X11_paid (d + 7) a) h := by
  have L := I.1
  obtain ⟨_, ⟨n, W, P, SN, H, X, wr, tn, N, K⟩, M, R⟩ := id I
  obtain ⟨k, HW, HG, hc, hm⟩ := NOW_hands N
  have hk := hc.1
  have h16 := pow4 hk
  have tb' := twn_b (NOW_t N)
  obtain ⟨h1, e1, s1, L1, f1⟩ := c_cheapest L d hc (T := tipZ n W P SN) (by omega)
  have N1 := NOW_sm s1 N
  have hc1 := hnd_sm s1 hc
  obtain ⟨h2, e2, s2, L2, f2⟩ := m_isPaid (INV_sm s1 L1 I) (d + 1) N1 (hndM_sm s1 hm)
  have s12 := sm_trans s1 s2
  have hm2 := hndM_sm s12 hm
  rcases paid_same (T := tipZ n W P SN) (HW := HW) (HG := HG) hk with ⟨p1, p2⟩ | ⟨b, w, cc, p1, pb, p2, p3, p4, p5⟩
  · refine ⟨-1, h1, h2, ?_, ?_, INV_sm s12 L2 I⟩
    · rw [S_X10_paid L (d + 6), c_tipNow L (d + 5) tAt10 (NOW_t N), cI_some, e1, cI_some, p1, if_pos (show oI none = -1 from rfl)]
    · rw [S_X11_paid L1 (d + 6), e2, cI_some, p2, if_pos (show oz (none : Option Nat) = 0 from rfl)]
  · have st := m_standing L2 (d + 5) hm2 ⟨k_81 L2, n_81 L2⟩ (s := dc cc) (fun j hj => ⟨f2 cc p3 j hj, dc_9 cc j⟩)
    rw [p4] at st
    refine ⟨if a = 0 then nI b else nI (wgN HG k b), h1, h2, ?_, ?_, INV_sm s12 L2 I⟩
    · rw [S_X10_paid L (d + 6), c_tipNow L (d + 5) tAt10 (NOW_t N), cI_some, e1, cI_some, p1, show oI (some b) = nI b from rfl, if_neg (nI_m1 (by omega)), c_wageOf L1 (d + 4) hc1 (by omega), cI_some]
      split <;> rfl
    · rw [S_X11_paid L1 (d + 6), e2, cI_some, p3, if_neg (oz1 cc), st, cI_some, cI_some, m_wageH L2 (d + 4) hm2 (by omega), cI_some]
      split <;> rfl
theorem A_stand {c : Nat} {h : MH} (I : INV c h) (d : Nat) (a : Int32) : AGI c (F_X10_stand (d + 7) a) (F_X11_stand (d + 7) a) h := by
  have L := I.1
  obtain ⟨_, ⟨n, W, P, SN, H, X, wr, tn, N, K⟩, M, R⟩ := id I
  obtain ⟨k, HW, HG, hc, hm⟩ := NOW_hands N
  have hk := hc.1
  have h16 := pow4 hk
  have tb' := twn_b (NOW_t N)
  rcases in_cases (a := a) (N := k) (by omega) with ⟨e, hne⟩ | ⟨j, hj, rfl, e⟩
  · refine ⟨-1, h, h, ?_, ?_, I⟩
    · rw [S_X10_stand L (d + 6), c_within L, cI_some, hc.2.1, e, if_pos rfl]
    · rw [S_X11_stand L (d + 6), m_isIn L, cI_some, hm.2.1, e, if_pos rfl]
  obtain ⟨h1, e1, s1, L1, f1⟩ := c_cheapest L d hc (T := tipZ n W P SN) (by omega)
  have N1 := NOW_sm s1 N
  have hm1 := hndM_sm s1 hm
  obtain ⟨h2, e2, s2, L2, f2⟩ := m_isPaid (INV_sm s1 L1 I) (d + 1) N1 hm1
  have s12 := sm_trans s1 s2
  have eC : F_X10_stand (d + 7) (nI j) h = cI (F_X2_cheapest (d + 6) (zI (tipZ n W P SN)) h) (fun x6 h5 => (if x6 = (-1) then some (.int (-1), h5) else cI (F_X10_holds (d + 6) x6 (nI j) h5) (fun x8 h7 => (if x8 = 0 then some (.int (-1), h7) else ck (ib (nI j) 4) (some (.int (gI h7 22 (ix (nI j))), h7)))))) := by
    rw [S_X10_stand L (d + 6), c_within L, cI_some, hc.2.1, e, if_neg i10, c_tipNow L (d + 5) tAt10 (NOW_t N), cI_some]
  have eM : F_X11_stand (d + 7) (nI j) h1 = cI (F_X11_isPaid (d + 6) h1) (fun x4 h3 => (if x4 = 0 then some (.int (-1), h3) else ck (ib (nI j) 4) ((if (gI h3 81 (ix (nI j))) < 9 then ck (ib (nI j) 4) (some (.int (gI h3 81 (ix (nI j))), h3)) else some (.int (-1), h3))))) := by
    rw [S_X11_stand L1 (d + 6), m_isIn L1, cI_some, hm1.2.1, e, if_neg i10]
  rcases paid_same (T := tipZ n W P SN) (HW := HW) (HG := HG) hk with ⟨p1, p2⟩ | ⟨b, w, cc, p1, pb, p2, p3, p4, p5⟩
  · refine ⟨-1, h1, h2, ?_, ?_, INV_sm s12 L2 I⟩
    · rw [eC, e1, cI_some, p1, if_pos (show oI none = -1 from rfl)]
    · rw [eM, e2, cI_some, p2, if_pos (show oz (none : Option Nat) = 0 from rfl)]
  · have g81 := f2 cc p3 j hj
    have d9 := dc_9 cc j
    have bt := sts_bit b k w j hj
    rw [← p5 j hj] at bt
    refine ⟨if dc cc j < 9 then nI (dc cc j) else -1, h1, h2, ?_, ?_, INV_sm s12 L2 I⟩
    · rw [eC, e1, cI_some, p1, show oI (some b) = nI b from rfl, if_neg (nI_m1 (by omega)), c_holds L1 (d + 5) (by omega) (by omega), cI_some, ck_pos (ib_nI (by omega) (by omega)), ix_nI (by omega)]
      by_cases q : b.testBit j = true
      · rw [if_pos q, if_neg i10, if_pos (bt.mpr q), f1 b w p1 p2 j hj q, p5 j hj]
      · rw [if_neg q, if_pos rfl, if_neg (fun z => q (bt.mp z))]
    · rw [eM, e2, cI_some, p3, if_neg (oz1 cc), ck_pos (ib_nI (by omega) (by omega)), ck_pos (ib_nI (by omega) (by omega)), ix_nI (by omega), g81]
      by_cases q : dc cc j < 9
      · rw [if_pos ((nIl (by omega) (by omega)).mpr q), if_pos q]
      · rw [if_neg (fun z => q ((nIl (by omega) (by omega)).mp z)), if_neg q]
