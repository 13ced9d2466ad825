--deps:19.lay 21.facts 22.00.names 22.01.eq 22.02.eq 22.03.eq 22.04.eq 22.05.eq 22.06.eq 22.07.eq 22.08.eq 22.09.eq 22.10.eq 22.11.eq 22.12.eq 22.13.eq 22.14.eq 22.15.eq 22.16.eq 22.17.eq 22.18.eq 22.19.eq 22.20.eq 22.21.eq 22.22.eq 22.23.eq 23.num 24.town 25.evc 26.evm 27.law 28.says 29.inv 30.api1 31.copy 32.api2 33.api3 34.api4 35.api5 36.deeds 37.hours 38.mdeeds 39.mhours 40.hist 41.full 42.acts 43.acts2 44.played 45.undo 46.trial 47.sets 48.sets2 49.image 50.ask 51.swap 52.level 53.crowd 54.crowd2 55.crowd3 56.share 57.hands
/-! WHO IS PAID: the reference's, and the answers -/
set_option linter.unusedSectionVars false
def dc (c h : Nat) : Nat := c / 10 ^ h % 10
theorem dc_9 (c h : Nat) : dc c h ≤ 9 := by unfold dc; omega
theorem dc_ex {s : Nat → Nat} : ∀ k, (∀ h, h < k → s h ≤ 9) → ∃ c, c < 10 ^ k ∧ ∀ h, h < k → dc c h = s h := by
  intro k
  induction k with
  | zero => intro _; exact ⟨0, Nat.one_pos, fun h hh => by omega⟩
  | succ k ih =>
    intro hs
    obtain ⟨c, c1, c2⟩ := ih (fun h hh => hs h (by omega))
    have h9 := hs k (by omega)
    have pos : 0 < 10 ^ k := Nat.pow_pos (by decide)
    refine ⟨c + s k * 10 ^ k, ?_, fun h hh => ?_⟩
    · have : s k * 10 ^ k ≤ 9 * 10 ^ k := Nat.mul_le_mul_right _ h9
      rw [Nat.pow_succ]
      omega
    · unfold dc
      by_cases q : h = k
      · subst q
        rw [Nat.add_mul_div_right _ _ pos, Nat.div_eq_of_lt c1, Nat.zero_add]
        omega
      · obtain ⟨j, rfl⟩ : ∃ j, k = h + 1 + j := ⟨k - (h + 1), by omega⟩
        have pp : 0 < 10 ^ h := Nat.pow_pos (by decide)
        have : s (h + 1 + j) * 10 ^ (h + 1 + j) = (s (h + 1 + j) * 10 ^ j * 10) * 10 ^ h := by
          rw [Nat.pow_add, Nat.pow_add, Nat.pow_one]
          simp only [Nat.mul_comm, Nat.mul_left_comm, Nat.mul_assoc]
        rw [this, Nat.add_mul_div_right _ _ pp, Nat.add_mul_mod_self_right]
        exact c2 h (by omega)
def setV (s : Nat → Nat) (k : Nat) : Nat := setN (fun h => decide (s h < 9)) k
def keyN (HG : Nat → Nat) (k : Nat) (s : Nat → Nat) : Nat := ckN HG k (setV s k) * 10 ^ k + lxN s k
theorem setV_bit {s : Nat → Nat} {k h : Nat} (hh : h < k) : ((setV s k).testBit h = true) ↔ s h < 9 := by
  unfold setV
  rw [setN_bit]
  simp [hh]
theorem setV_sts {S k w : Nat} (hk : k ≤ 4) (hS : S < 2 ^ k) : setV (sts S k w) k = S := by
  apply Nat.eq_of_testBit_eq
  intro p
  unfold setV
  rw [setN_bit]
  by_cases q : p < k
  · have := sts_bit S k w p q
    by_cases b : S.testBit p = true
    · rw [b, decide_eq_true q, decide_eq_true (this.mpr b)]; rfl
    · rw [Bool.eq_false_iff.mpr b, decide_eq_false (fun z => b (this.mp z))]; simp
  · rw [decide_eq_false q, Bool.false_and]
    symm
    apply Nat.testBit_lt_two_pow
    exact Nat.lt_of_lt_of_le hS (Nat.pow_le_pow_right (by decide) (by omega))
theorem setV_congr {s t : Nat → Nat} {k : Nat} (h : ∀ i, i < k → s i = t i) : setV s k = setV t k := setN_congr (fun i hi => by rw [h i hi])
theorem setV_lt (s : Nat → Nat) (k : Nat) : setV s k < 2 ^ k := setN_lt _ k
theorem tpV_congr {HW s t : Nat → Nat} {k : Nat} (h : ∀ i, i < k → s i = t i) : tpV HW s k = tpV HW t k := by
  unfold tpV
  exact sumZ_congr (fun i hi => by rw [h i hi])
/-- what the class's choice is -/
theorem ch_min {T : Int} {HW HG : Nat → Nat} {k : Nat} (hk : k ≤ 4) : ∀ i, i ≤ 2 ^ k → (itr (chS T HW HG k) none i = none → ∀ S, S < i → fwO T HW k S = none) ∧ (∀ b, itr (chS T HW HG k) none i = some b → b < i ∧ (∃ w, fwO T HW k b = some w) ∧ ∀ S, S < i → (∃ w, fwO T HW k S = some w) → ckN HG k b ≤ ckN HG k S) := by
  have h16 := pow4 hk
  intro i
  induction i with
  | zero => intro _; exact ⟨fun _ S hS => by omega, fun b e => by cases e⟩
  | succ i ih =>
    intro hi
    obtain ⟨h1, h2⟩ := ih (by omega)
    have st : itr (chS T HW HG k) none (i + 1) = chS T HW HG k i (itr (chS T HW HG k) none i) := rfl
    rw [st]
    cases ho : itr (chS T HW HG k) none i with
    | none =>
      have h1' := h1 ho
      unfold chS
      dsimp only
      cases hf : fwO T HW k i with
      | none =>
        rw [if_neg (show ¬ (none : Option Nat).isSome = true by decide)]
        refine ⟨fun _ S hS => ?_, fun b e => by cases e⟩
        by_cases q : S = i
        · subst q; exact hf
        · exact h1' S (by omega)
      | some w =>
        rw [if_pos (show (some w).isSome = true from rfl)]
        refine ⟨fun e => (by cases e), fun b e => ?_⟩
        cases e
        refine ⟨by omega, ⟨w, hf⟩, fun S hS hw => ?_⟩
        by_cases q : S = i
        · subst q; exact Nat.le_refl _
        · obtain ⟨w', e'⟩ := hw
          rw [h1' S (by omega)] at e'
          cases e'
    | some b0 =>
      obtain ⟨g1, g2, g3⟩ := h2 b0 ho
      unfold chS
      dsimp only
      by_cases q : (wgN HG k i * 5 + popN i < wgN HG k b0 * 5 + popN b0) ∧ (fwO T HW k i).isSome = true
      · rw [if_pos q]
        refine ⟨fun e => (by cases e), fun b e => ?_⟩
        cases e
        refine ⟨by omega, Option.isSome_iff_exists.mp q.2, fun S hS hw => ?_⟩
        by_cases z : S = i
        · subst z; exact Nat.le_refl _
        · have := g3 S (by omega) hw
          unfold ckN at *
          omega
      · rw [if_neg q]
        refine ⟨fun e => (by cases e), fun b e => ?_⟩
        cases e
        refine ⟨by omega, g2, fun S hS hw => ?_⟩
        by_cases z : S = i
        · subst z
          have : ¬ (wgN HG k S * 5 + popN S < wgN HG k b0 * 5 + popN b0) := fun y => q ⟨y, Option.isSome_iff_exists.mpr hw⟩
          unfold ckN
          omega
        · exact g3 S (by omega) hw
/-- the reference's choice -/
noncomputable def bsS (T : Int) (HW HG : Nat → Nat) (k i : Nat) (o : Option Nat) : Option Nat := if T + tpV HW (dc i) k = 0 then (match o with
  | none => some i
  | some c => if keyN HG k (dc i) < keyN HG k (dc c) then some i else some c) else o
theorem bs_min {T : Int} {HW HG : Nat → Nat} {k : Nat} : ∀ i, (itr (bsS T HW HG k) none i = none → ∀ c, c < i → ¬ T + tpV HW (dc c) k = 0) ∧ (∀ b, itr (bsS T HW HG k) none i = some b → b < i ∧ T + tpV HW (dc b) k = 0 ∧ ∀ c, c < i → T + tpV HW (dc c) k = 0 → keyN HG k (dc b) ≤ keyN HG k (dc c)) := by
  intro i
  induction i with
  | zero => exact ⟨fun _ c hc => by omega, fun b e => by cases e⟩
  | succ i ih =>
    obtain ⟨h1, h2⟩ := ih
    have st : itr (bsS T HW HG k) none (i + 1) = bsS T HW HG k i (itr (bsS T HW HG k) none i) := rfl
    have bs : ∀ o, bsS T HW HG k i o = if T + tpV HW (dc i) k = 0 then (match o with
      | none => some i
      | some c => if keyN HG k (dc i) < keyN HG k (dc c) then some i else some c) else o := fun o => rfl
    rw [st, bs]
    by_cases q : T + tpV HW (dc i) k = 0
    · rw [if_pos q]
      cases ho : itr (bsS T HW HG k) none i with
      | none =>
        have h1' := h1 ho
        refine ⟨fun e => (by cases e), fun b e => ?_⟩
        cases e
        refine ⟨by omega, q, fun c hc z => ?_⟩
        by_cases y : c = i
        · subst y; exact Nat.le_refl _
        · exact absurd z (h1' c (by omega))
      | some b0 =>
        obtain ⟨g1, g2, g3⟩ := h2 b0 ho
        dsimp only
        by_cases x : keyN HG k (dc i) < keyN HG k (dc b0)
        · rw [if_pos x]
          refine ⟨fun e => (by cases e), fun b e => ?_⟩
          cases e
          refine ⟨by omega, q, fun c hc z => ?_⟩
          by_cases y : c = i
          · subst y; exact Nat.le_refl _
          · have := g3 c (by omega) z
            omega
        · rw [if_neg x]
          refine ⟨fun e => (by cases e), fun b e => ?_⟩
          cases e
          refine ⟨by omega, g2, fun c hc z => ?_⟩
          by_cases y : c = i
          · subst y; omega
          · exact g3 c (by omega) z
    · rw [if_neg q]
      refine ⟨fun e c hc => ?_, fun b e => ?_⟩
      · by_cases y : c = i
        · subst y; exact q
        · exact h1 e c (by omega)
      · obtain ⟨g1, g2, g3⟩ := h2 b e
        refine ⟨by omega, g2, fun c hc z => ?_⟩
        by_cases y : c = i
        · subst y; exact absurd z q
        · exact g3 c (by omega) z
theorem keyN_eq {HG : Nat → Nat} {k : Nat} {s t : Nat → Nat} (hs : ∀ i, i < k → s i ≤ 9) (ht : ∀ i, i < k → t i ≤ 9) (e : keyN HG k s = keyN HG k t) : ∀ i, i < k → s i = t i := by
  have h1 := lxN_lt hs
  have h2 := lxN_lt ht
  unfold keyN at e
  refine lxN_eq hs ht ?_
  have pos : 0 < 10 ^ k := Nat.pow_pos (by decide)
  have m1 : (ckN HG k (setV s k) * 10 ^ k + lxN s k) % 10 ^ k = lxN s k := by
    rw [Nat.add_comm, Nat.add_mul_mod_self_right, Nat.mod_eq_of_lt h1]
  have m2 : (ckN HG k (setV t k) * 10 ^ k + lxN t k) % 10 ^ k = lxN t k := by
    rw [Nat.add_comm, Nat.add_mul_mod_self_right, Nat.mod_eq_of_lt h2]
  rw [← m1, ← m2, e]
/-- both choose alike -/
theorem paid_same {T : Int} {HW HG : Nat → Nat} {k : Nat} (hk : k ≤ 4) : (itr (chS T HW HG k) none (2 ^ k) = none ∧ itr (bsS T HW HG k) none (10 ^ k) = none) ∨ ∃ b w c, itr (chS T HW HG k) none (2 ^ k) = some b ∧ b < 2 ^ k ∧ fwO T HW k b = some w ∧ itr (bsS T HW HG k) none (10 ^ k) = some c ∧ setV (dc c) k = b ∧ ∀ h, h < k → dc c h = sts b k w h := by
  have h16 := pow4 hk
  obtain ⟨c1, c2⟩ := ch_min (T := T) (HW := HW) (HG := HG) hk (2 ^ k) (Nat.le_refl _)
  obtain ⟨d1, d2⟩ := bs_min (T := T) (HW := HW) (HG := HG) (k := k) (10 ^ k)
  -- a standing that levels is a way of its set
  have way : ∀ c, T + tpV HW (dc c) k = 0 → ∃ w, w < 9 ^ popK (setV (dc c) k) k ∧ (∀ h, h < k → sts (setV (dc c) k) k w h = dc c h) ∧ T + tpH HW (setV (dc c) k) k w = 0 := by
    intro c hc
    obtain ⟨w, w1, w2⟩ := sts_ex (setV (dc c) k) (c := dc c) k (fun h hh => ⟨dc_9 c h, (setV_bit hh).symm⟩)
    refine ⟨w, w1, w2, ?_⟩
    rw [tpH_V, tpV_congr w2]
    exact hc
  have fwS : ∀ S w, w < 9 ^ popK S k → T + tpH HW S k w = 0 → ∃ w', fwO T HW k S = some w' ∧ w' ≤ w := by
    intro S w hw e
    cases hf : fwO T HW k S with
    | none =>
      have := findO_none _ _ hf w (Nat.zero_le _) (by omega)
      rw [decide_eq_true e] at this
      cases this
    | some w' =>
      obtain ⟨-, a2, a3, a4⟩ := findO_some _ _ hf
      refine ⟨w', rfl, ?_⟩
      apply Classical.byContradiction
      intro z
      have := a4 w (Nat.zero_le _) (by omega)
      rw [decide_eq_true e] at this
      cases this
  cases hb : itr (chS T HW HG k) none (2 ^ k) with
  | none =>
    refine Or.inl ⟨rfl, ?_⟩
    cases hc : itr (bsS T HW HG k) none (10 ^ k) with
    | none => rfl
    | some c =>
      obtain ⟨-, g2, -⟩ := d2 c hc
      obtain ⟨w, w1, w2, w3⟩ := way c g2
      obtain ⟨w', e', -⟩ := fwS _ w w1 w3
      rw [c1 hb _ (setV_lt _ _)] at e'
      cases e'
  | some b =>
    obtain ⟨b1, ⟨w, bw⟩, b3⟩ := c2 b hb
    obtain ⟨-, w2, w3, -⟩ := findO_some _ _ bw
    have w3' := of_decide_eq_true w3
    -- the class's standing as a number
    obtain ⟨cv, v1, v2⟩ := dc_ex (s := sts b k w) k (fun h _ => sts_9 b k w h)
    have vc : T + tpV HW (dc cv) k = 0 := by
      rw [tpV_congr v2, ← tpH_V]; exact w3'
    cases hc : itr (bsS T HW HG k) none (10 ^ k) with
    | none => exact absurd vc (d1 hc cv v1)
    | some c =>
      obtain ⟨g1, g2, g3⟩ := d2 c hc
      have k1 := g3 cv v1 vc
      obtain ⟨w', y1, y2, y3⟩ := way c g2
      obtain ⟨w'', z1, z2⟩ := fwS _ w' y1 y3
      have k2 := b3 _ (setV_lt _ _) ⟨w'', z1⟩
      have sv : setV (dc cv) k = b := by rw [setV_congr v2, setV_sts hk b1]
      have lx1 := lxN_lt (s := dc cv) (k := k) (fun i _ => dc_9 cv i)
      have key2 : keyN HG k (dc cv) ≤ keyN HG k (dc c) := by
        unfold keyN
        rw [sv]
        by_cases q : ckN HG k b = ckN HG k (setV (dc c) k)
        · have sb : setV (dc c) k = b := by
            have s16 := setV_lt (dc c) k
            unfold ckN at q
            omega
          rw [sb] at y1 y2 y3 z1 ⊢
          rw [bw] at z1
          cases z1
          have : lxN (dc cv) k ≤ lxN (dc c) k := by
            rw [lxN_congr v2, ← lxN_congr y2]
            by_cases e : w = w'
            · rw [e]; exact Nat.le_refl _
            · exact Nat.le_of_lt (sts_lt b k w w' (by omega) y1)
          omega
        · have : (ckN HG k b + 1) * 10 ^ k ≤ ckN HG k (setV (dc c) k) * 10 ^ k := Nat.mul_le_mul_right _ (by omega)
          rw [Nat.add_mul, Nat.one_mul] at this
          omega
      have same := keyN_eq (HG := HG) (k := k) (s := dc c) (t := dc cv) (fun i _ => dc_9 c i) (fun i _ => dc_9 cv i) (by omega)
      refine Or.inr ⟨b, w, c, rfl, b1, bw, rfl, ?_, fun h hh => ?_⟩
      · rw [setV_congr same]; exact sv
      · rw [same h hh]; exact v2 h hh
/-! the reference's -/
def hndM (h : MH) (k : Nat) (HW HG : Nat → Nat) : Prop := k ≤ 4 ∧ gI h 68 1 = nI k ∧ ∀ j, j < k → (gI h 68 (34 + 2 * j) = nI (HW j) ∧ HW j ≤ 9) ∧ gI h 68 (35 + 2 * j) = nI (HG j) ∧ HG j ≤ 99
theorem hndM_sm {h h' : MH} {k : Nat} {HW HG : Nat → Nat} (s : sm SCR h h') (H : hndM h k HW HG) : hndM h' k HW HG := by
  unfold hndM
  rw [sm_gI s (a := 68) (by decide) (by decide)]
  exact H
section HM
theorem m_wageH {h : MH} (L : lay h) (d : Nat) {k : Nat} {HW : Nat → Nat} {HG : Nat → Nat} (H : hndM h k HW HG) {S : Nat} (hS : S < 16) : F_X11_wageOf (d + 2) (nI S) h = some (.int (nI (wgN HG k S)), h) := by
  obtain ⟨hk, e3, hj⟩ := H
  rw [S_X11_wageOf L (d + 1)]
  refine (loop_all (n := k) (F := fun i => G_X11_wageOf_4 (d + 1) (nI S) (nI (wgN HG i S)) (nI i) h) (fun i hi => ?_)).trans ?_
  · show G_X11_wageOf_4 _ _ _ _ _ = _
    rw [S_X11_wageOf_4 L (d + 1), e3, if_pos (nI_lt hi (by omega)), m_has' L d (by omega) (by omega), cI_some, S_X11_wageOf_27 L (d + 1), S_X11_wageOf_27 L (d + 1), nI_1, nIm, nIa, nI_1]
    unfold wgN
    rw [sumN_s]
    by_cases b : S.testBit i = true
    · rw [if_pos b, if_neg i10, ck_pos (ib_nI (by omega) (by omega)), ix_nI (by omega), show 34 + 2 * i + 1 = 35 + 2 * i by omega, (hj i hi).2.1, nI_add, if_pos b]
    · rw [if_neg b, if_pos rfl, if_neg b, Int32.add_zero]
      rfl
  · show G_X11_wageOf_4 _ _ _ _ _ = _
    rw [S_X11_wageOf_4 L (d + 1), e3, if_neg (nI_nlt (Nat.le_refl _) (by omega))]
theorem m_standing {h : MH} (L : lay h) (d : Nat) {k : Nat} {HW : Nat → Nat} {HG : Nat → Nat} (H : hndM h k HW HG) {a : Nat} (ha : kd h a = 20 ∧ ln h a = 4) {s : Nat → Nat} (hs : ∀ j, j < k → gI h a j = nI (s j) ∧ s j ≤ 9) : F_X11_standing (d + 1) a h = some (.int (nI (setV s k)), h) := by
  obtain ⟨hk, e3, hj⟩ := H
  rw [S_X11_standing L d]
  refine (loop_all (n := k) (F := fun i => G_X11_standing_4 d a (nI (setN (fun h => decide (s h < 9)) i)) (nI i) h) (fun i hi => ?_)).trans ?_
  · show G_X11_standing_4 _ _ _ _ _ = _
    obtain ⟨s1, s2⟩ := hs i hi
    have b1 := setN_lt (fun h => decide (s h < 9)) i
    have b2 := pow4 (n := i) (by omega)
    rw [S_X11_standing_4 L d, e3, if_pos (nI_lt hi (by omega)), ha.2, ck_pos ⟨Or.inl ha.1, ib_nI (by omega) (by omega)⟩, ix_nI (by omega), s1, S_X11_standing_21 L d, S_X11_standing_21 L d, nI_1, ← setN_or]
    by_cases q : s i < 9
    · rw [if_pos ((nIl (by omega) (by omega)).mpr q), decide_eq_true q, if_pos rfl, one_shl (by omega), or_nI (by omega) (by omega)]
    · rw [if_neg (fun z => q ((nIl (by omega) (by omega)).mp z)), decide_eq_false q, if_neg (by decide), Nat.or_zero]
      congr 1
      exact Int32.or_zero
  · show G_X11_standing_4 _ _ _ _ _ = _
    rw [S_X11_standing_4 L d, e3, if_neg (nI_nlt (Nat.le_refl _) (by omega))]
    rfl
theorem m_isBetter {h : MH} (L : lay h) (d : Nat) {k : Nat} {HW : Nat → Nat} {HG : Nat → Nat} (H : hndM h k HW HG) {s t : Nat → Nat} (hs : ∀ j, j < k → gI h 80 j = nI (s j) ∧ s j ≤ 9) (ht : ∀ j, j < k → gI h 81 j = nI (t j) ∧ t j ≤ 9) : F_X11_isBetter (d + 3) h = some (.int (bz (decide (keyN HG k s < keyN HG k t))), h) := by
  have hk := H.1
  have h16 := pow4 hk
  have l1 := setV_lt s k
  have l2 := setV_lt t k
  have wb : ∀ S, wgN HG k S ≤ 99 * k := fun S => sumN_le (fun j hj => by
    have := (H.2.2 j hj).2.2
    split <;> omega)
  have b1 := wb (setV s k)
  have b2 := wb (setV t k)
  have p1 : popN (setV s k) ≤ 4 := by unfold popN; omega
  have p2 : popN (setV t k) ≤ 4 := by unfold popN; omega
  have x1 := lxN_lt (s := s) (k := k) (fun i hi => (hs i hi).2)
  have x2 := lxN_lt (s := t) (k := k) (fun i hi => (ht i hi).2)
  have far : ∀ u v a b : Nat, a < 10 ^ k → b < 10 ^ k → u < v → u * 10 ^ k + a < v * 10 ^ k + b := by
    intro u v a b ha hb huv
    have : (u + 1) * 10 ^ k ≤ v * 10 ^ k := Nat.mul_le_mul_right _ huv
    rw [Nat.add_mul, Nat.one_mul] at this
    omega
  have kl : ckN HG k (setV s k) < ckN HG k (setV t k) → decide (keyN HG k s < keyN HG k t) = true := fun q => decide_eq_true (far _ _ _ _ x1 x2 q)
  have kg : ckN HG k (setV t k) < ckN HG k (setV s k) → decide (keyN HG k s < keyN HG k t) = false := fun q => decide_eq_false (by have := far _ _ _ _ x2 x1 q; unfold keyN; omega)
  rw [S_X11_isBetter L (d + 2), m_standing L (d + 1) H ⟨k_80 L, n_80 L⟩ hs, cI_some, m_standing L (d + 1) H ⟨k_81 L, n_81 L⟩ ht, cI_some, m_wageH L d H (by omega), cI_some, m_wageH L d H (by omega), cI_some]
  by_cases q1 : wgN HG k (setV s k) = wgN HG k (setV t k)
  · rw [if_pos (congrArg nI q1), m_bits L (d + 1) (by omega), cI_some, m_bits L (d + 1) (by omega), cI_some]
    by_cases q2 : popN (setV s k) = popN (setV t k)
    · rw [if_pos (congrArg nI q2)]
      by_cases q3 : setV s k = setV t k
      · rw [if_pos (congrArg nI q3)]
        have lex : ∀ m i, i + m = k → lxN s i = lxN t i → G_X11_isBetter_54 (d + 2) (nI (setV s k)) (nI (setV t k)) (nI i) h = some (.int (bz (decide (lxN s k < lxN t k))), h) := by
          intro m
          induction m with
          | zero =>
            intro i hi e
            obtain rfl : i = k := by omega
            rw [S_X11_isBetter_54 L (d + 2), H.2.1, if_neg (nI_nlt (Nat.le_refl _) (by omega)), decide_eq_false (by omega)]
            rfl
          | succ m ih =>
            intro i hi e
            obtain ⟨s1, s2⟩ := hs i (by omega)
            obtain ⟨t1, t2⟩ := ht i (by omega)
            rw [S_X11_isBetter_54 L (d + 2), H.2.1, if_pos (nI_lt (by omega) (by omega)), ck_pos (ib_nI (by omega) (by omega)), ck_pos (ib_nI (by omega) (by omega)), ix_nI (by omega), s1, t1]
            by_cases q : s i = t i
            · rw [if_pos (congrArg nI q), nI_1]
              exact ih (i + 1) (by omega) (by rw [lxN, lxN, e, q])
            · rw [if_neg (fun z => q ((nI_eq (by omega) (by omega)).mp z)), ck_pos (ib_nI (by omega) (by omega)), ck_pos (ib_nI (by omega) (by omega))]
              -- what differs here differs to the end
              have gr : ∀ (u v : Nat → Nat), (∀ j, j < k → u j ≤ 9) → (∀ j, j < k → v j ≤ 9) → ∀ n, i < n → n ≤ k → lxN u i = lxN v i → u i < v i → lxN u n < lxN v n := by
                intro u v hu hv n
                induction n with
                | zero => intro h; omega
                | succ n ihn =>
                  intro h1 h2 e1 e2
                  have u9 := hu n (by omega)
                  rw [lxN, lxN]
                  by_cases z : i = n
                  · subst z; omega
                  · have := ihn (by omega) (by omega) e1 e2
                    omega
              by_cases q5 : s i < t i
              · have := gr s t (fun j hj => (hs j hj).2) (fun j hj => (ht j hj).2) k (by omega) (Nat.le_refl _) e q5
                rw [if_pos (nI_lt q5 (by omega)), decide_eq_true this]
                rfl
              · have := gr t s (fun j hj => (ht j hj).2) (fun j hj => (hs j hj).2) k (by omega) (Nat.le_refl _) e.symm (by omega)
                rw [if_neg (nI_nlt (by omega) (by omega)), decide_eq_false (by omega)]
                rfl
        refine (lex k 0 (by omega) rfl).trans ?_
        congr 4
        unfold keyN
        rw [q3]
        by_cases z : lxN s k < lxN t k
        · rw [decide_eq_true z, decide_eq_true (by omega)]
        · rw [decide_eq_false z, decide_eq_false (by omega)]
      · rw [if_neg (fun z => q3 ((nI_eq (by omega) (by omega)).mp z))]
        by_cases q4 : setV s k < setV t k
        · rw [if_pos (nI_lt q4 (by omega)), kl (by unfold ckN; omega)]; rfl
        · rw [if_neg (nI_nlt (by omega) (by omega)), kg (by unfold ckN; omega)]; rfl
    · rw [if_neg (fun z => q2 ((nI_eq (by omega) (by omega)).mp z)), m_bits L (d + 1) (by omega), cI_some, m_bits L (d + 1) (by omega), cI_some]
      by_cases q4 : popN (setV s k) < popN (setV t k)
      · rw [if_pos (nI_lt q4 (by omega)), kl (by unfold ckN; omega)]; rfl
      · rw [if_neg (nI_nlt (by omega) (by omega)), kg (by unfold ckN; omega)]; rfl
  · rw [if_neg (fun z => q1 ((nI_eq (by omega) (by omega)).mp z)), m_wageH L d H (by omega), cI_some, m_wageH L d H (by omega), cI_some]
    by_cases q4 : wgN HG k (setV s k) < wgN HG k (setV t k)
    · rw [if_pos (nI_lt q4 (by omega)), kl (by unfold ckN; omega)]; rfl
    · rw [if_neg (nI_nlt (by omega) (by omega)), kg (by unfold ckN; omega)]; rfl
end HM
