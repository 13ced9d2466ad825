--deps:19.lay 21.facts 22.00.names 22.01.eq 22.02.eq 22.03.eq 22.04.eq 22.05.eq 22.06.eq 22.07.eq 22.08.eq 22.09.eq 22.10.eq 22.11.eq 22.12.eq 22.13.eq 22.14.eq 22.15.eq 22.16.eq 22.17.eq 22.18.eq 22.19.eq 22.20.eq 22.21.eq 22.22.eq 22.23.eq 23.num 24.town 25.evc 26.evm 27.law 28.says 29.inv 30.api1 31.copy 32.api2 33.api3 34.api4 35.api5 36.deeds 37.hours 38.mdeeds 39.mhours 40.hist 41.full 42.acts 43.acts2 44.played 45.undo 46.trial 47.sets 48.sets2 49.image 50.ask 51.swap 52.level 53.crowd 54.crowd2 55.crowd3 56.share
/-! WHO IS PAID: pure, and the class's -/
set_option linter.unusedSectionVars false
def wgN (HG : Nat → Nat) (k S : Nat) : Nat := sumN (fun h => if S.testBit h then HG h else 0) k
/-- where the hands of S stand by a way, the lowest hand having the highest digit; 9: nowhere -/
def sts (S : Nat) : Nat → Nat → Nat → Nat
  | 0, _ => fun _ => 9
  | k + 1, w => fun h => if h = k then (if S.testBit k then w % 9 else 9) else sts S k (if S.testBit k then w / 9 else w) h
def tpH (HW : Nat → Nat) (S : Nat) : Nat → Nat → Int
  | 0, _ => 0
  | k + 1, w => tpH HW S k (if S.testBit k then w / 9 else w) + (if S.testBit k then (HW k : Int) * (((w % 9 : Nat) : Int) - 4) else 0)
/-- the tip that hands make that stand so -/
def tpV (HW : Nat → Nat) (s : Nat → Nat) (k : Nat) : Int := sumZ (fun h => if s h < 9 then (HW h : Int) * ((s h : Int) - 4) else 0) k
def popK (S : Nat) : Nat → Nat
  | 0 => 0
  | k + 1 => popK S k + (if S.testBit k then 1 else 0)
theorem popK_4 : ∀ n, n ≤ 4 → ∀ S, S < 2 ^ n → popK S n = popN S := by decide
def lxN (s : Nat → Nat) : Nat → Nat
  | 0 => 0
  | k + 1 => 10 * lxN s k + s k
theorem lxN_lt {s : Nat → Nat} {k : Nat} (h : ∀ i, i < k → s i ≤ 9) : lxN s k < 10 ^ k := by
  induction k with
  | zero => exact Nat.one_pos
  | succ k ih =>
    have h1 := ih (fun i hi => h i (by omega))
    have h2 := h k (by omega)
    rw [lxN, Nat.pow_succ]
    omega
theorem lxN_eq {s t : Nat → Nat} {k : Nat} (hs : ∀ i, i < k → s i ≤ 9) (ht : ∀ i, i < k → t i ≤ 9) (e : lxN s k = lxN t k) : ∀ i, i < k → s i = t i := by
  induction k with
  | zero => intro i hi; omega
  | succ k ih =>
    have h1 := hs k (by omega)
    have h2 := ht k (by omega)
    rw [lxN, lxN] at e
    intro i hi
    by_cases q : i = k
    · subst q; omega
    · exact ih (fun i hi => hs i (by omega)) (fun i hi => ht i (by omega)) (by omega) i (by omega)
theorem lxN_congr {s t : Nat → Nat} {k : Nat} (h : ∀ i, i < k → s i = t i) : lxN s k = lxN t k := by
  induction k with
  | zero => rfl
  | succ k ih => rw [lxN, lxN, ih (fun i hi => h i (by omega)), h k (by omega)]
theorem sts_9 (S : Nat) : ∀ k w h, sts S k w h ≤ 9 := by
  intro k
  induction k with
  | zero => intro w h; exact Nat.le_refl 9
  | succ k ih =>
    intro w h
    show (if h = k then (if S.testBit k then w % 9 else 9) else sts S k (if S.testBit k then w / 9 else w) h) ≤ 9
    split
    · split <;> omega
    · exact ih _ _
theorem sts_bit (S : Nat) : ∀ k w h, h < k → (sts S k w h < 9 ↔ S.testBit h = true) := by
  intro k
  induction k with
  | zero => intro w h hh; omega
  | succ k ih =>
    intro w h hh
    show (if h = k then (if S.testBit k then w % 9 else 9) else sts S k (if S.testBit k then w / 9 else w) h) < 9 ↔ _
    by_cases q : h = k
    · rw [if_pos q, q]
      by_cases b : S.testBit k = true
      · rw [if_pos b]; exact ⟨fun _ => b, fun _ => by omega⟩
      · rw [if_neg b]; exact ⟨fun z => by omega, fun z => absurd z b⟩
    · rw [if_neg q]; exact ih _ h (by omega)
/-- the tip of a way is the tip of where they stand -/
theorem tpH_V (HW : Nat → Nat) (S : Nat) : ∀ k w, tpH HW S k w = tpV HW (sts S k w) k := by
  intro k
  induction k with
  | zero => intro w; rfl
  | succ k ih =>
    intro w
    unfold tpV
    rw [sumZ_s, tpH, ih]
    have e : sumZ (fun h => if sts S (k + 1) w h < 9 then (HW h : Int) * ((sts S (k + 1) w h : Int) - 4) else 0) k = tpV HW (sts S k (if S.testBit k then w / 9 else w)) k := by
      unfold tpV
      refine sumZ_congr (fun h hh => ?_)
      have : sts S (k + 1) w h = sts S k (if S.testBit k then w / 9 else w) h := by
        show (if h = k then _ else _) = _
        rw [if_neg (by omega)]
      rw [this]
    rw [e]
    have ek : sts S (k + 1) w k = if S.testBit k then w % 9 else 9 := by
      show (if k = k then _ else _) = _
      rw [if_pos rfl]
    rw [ek]
    by_cases b : S.testBit k = true
    · rw [if_pos b, if_pos b, if_pos b, if_pos (by omega)]
    · rw [if_neg b, if_neg b, if_neg b, if_neg (by omega)]
theorem sts_lo (S k w : Nat) : ∀ i, i < k → sts S (k + 1) w i = sts S k (if S.testBit k then w / 9 else w) i := by
  intro i hi
  show (if i = k then _ else _) = _
  rw [if_neg (by omega)]
theorem sts_k (S k w : Nat) : sts S (k + 1) w k = if S.testBit k then w % 9 else 9 := by
  show (if k = k then _ else _) = _
  rw [if_pos rfl]
/-- ways in their order are standings in theirs -/
theorem sts_lt (S : Nat) : ∀ k w1 w2, w1 < w2 → w2 < 9 ^ popK S k → lxN (sts S k w1) k < lxN (sts S k w2) k := by
  intro k
  induction k with
  | zero =>
    intro w1 w2 h h2
    have : 9 ^ popK S 0 = 1 := rfl
    omega
  | succ k ih =>
    intro w1 w2 h h2
    rw [lxN, lxN, lxN_congr (sts_lo S k w1), lxN_congr (sts_lo S k w2), sts_k, sts_k]
    by_cases b : S.testBit k = true
    · rw [if_pos b, if_pos b, if_pos b, if_pos b]
      have e : popK S (k + 1) = popK S k + 1 := by rw [popK, if_pos b]
      rw [e, Nat.pow_succ] at h2
      by_cases q : w1 / 9 = w2 / 9
      · rw [q]; omega
      · have := ih (w1 / 9) (w2 / 9) (by omega) (by omega)
        omega
    · rw [if_neg b, if_neg b, if_neg b, if_neg b]
      have e : popK S (k + 1) = popK S k := by rw [popK, if_neg b]; rfl
      rw [e] at h2
      have := ih w1 w2 h h2
      omega
theorem sts_ex (S : Nat) {c : Nat → Nat} : ∀ k, (∀ h, h < k → c h ≤ 9 ∧ (c h < 9 ↔ S.testBit h = true)) → ∃ w, w < 9 ^ popK S k ∧ ∀ h, h < k → sts S k w h = c h := by
  intro k
  induction k with
  | zero => intro _; exact ⟨0, Nat.one_pos, fun h hh => by omega⟩
  | succ k ih =>
    intro hc
    obtain ⟨w, w1, w2⟩ := ih (fun h hh => hc h (by omega))
    obtain ⟨c1, c2⟩ := hc k (by omega)
    by_cases b : S.testBit k = true
    · have c9 := c2.mpr b
      have e : popK S (k + 1) = popK S k + 1 := by rw [popK, if_pos b]
      refine ⟨9 * w + c k, by rw [e, Nat.pow_succ]; omega, fun h hh => ?_⟩
      by_cases q : h = k
      · subst q; rw [sts_k, if_pos b]; omega
      · rw [sts_lo S k _ h (by omega), if_pos b, show (9 * w + c k) / 9 = w by omega]
        exact w2 h (by omega)
    · have c9 : ¬ c k < 9 := fun z => b (c2.mp z)
      have e : popK S (k + 1) = popK S k := by rw [popK, if_neg b]; rfl
      refine ⟨w, by rw [e]; exact w1, fun h hh => ?_⟩
      by_cases q : h = k
      · subst q; rw [sts_k, if_neg b]; omega
      · rw [sts_lo S k _ h (by omega), if_neg b]
        exact w2 h (by omega)
def findO (f : Nat → Bool) : Nat → Nat → Option Nat
  | 0, _ => none
  | m + 1, i => if f i then some i else findO f m (i + 1)
theorem findO_none {f : Nat → Bool} : ∀ m i, findO f m i = none → ∀ k, i ≤ k → k < i + m → f k = false := by
  intro m
  induction m with
  | zero => intro i _ k h1 h2; omega
  | succ m ih =>
    intro i e k h1 h2
    rw [findO] at e
    by_cases q : f i = true
    · rw [if_pos q] at e; cases e
    · rw [if_neg q] at e
      by_cases z : k = i
      · subst z; exact Bool.eq_false_iff.mpr q
      · exact ih (i + 1) e k (by omega) (by omega)
theorem findO_some {f : Nat → Bool} {r : Nat} : ∀ m i, findO f m i = some r → i ≤ r ∧ r < i + m ∧ f r = true ∧ ∀ k, i ≤ k → k < r → f k = false := by
  intro m
  induction m with
  | zero => intro i e; cases e
  | succ m ih =>
    intro i e
    rw [findO] at e
    by_cases q : f i = true
    · rw [if_pos q] at e; cases e
      exact ⟨Nat.le_refl _, by omega, q, fun k h1 h2 => by omega⟩
    · rw [if_neg q] at e
      obtain ⟨a1, a2, a3, a4⟩ := ih (i + 1) e
      refine ⟨by omega, by omega, a3, fun k h1 h2 => ?_⟩
      by_cases z : k = i
      · subst z; exact Bool.eq_false_iff.mpr q
      · exact a4 k (by omega) h2
/-- the first way by which S levels the tip -/
def fwO (T : Int) (HW : Nat → Nat) (k S : Nat) : Option Nat := findO (fun w => decide (T + tpH HW S k w = 0)) (9 ^ popK S k) 0
/-- hands -/
def hnd (h : MH) (k : Nat) (HW HG : Nat → Nat) : Prop := k ≤ 4 ∧ gI h 19 3 = nI k ∧ ∀ j, j < k → (gI h 20 j = nI (HW j) ∧ HW j ≤ 9) ∧ gI h 21 j = nI (HG j) ∧ HG j ≤ 99
theorem hnd_sm {h h' : MH} {k : Nat} {HW HG : Nat → Nat} (s : sm SCR h h') (H : hnd h k HW HG) : hnd h' k HW HG := by
  unfold hnd
  rw [sm_gI s (a := 19) (by decide) (by decide), sm_gI s (a := 20) (by decide) (by decide), sm_gI s (a := 21) (by decide) (by decide)]
  exact H
theorem tpH_b {HW : Nat → Nat} {S : Nat} : ∀ k w, (∀ j, j < k → HW j ≤ 9) → -36 * (k : Int) ≤ tpH HW S k w ∧ tpH HW S k w ≤ 36 * (k : Int) := by
  intro k
  induction k with
  | zero => intro w _; exact ⟨show -36 * ((0 : Nat) : Int) ≤ 0 by decide, show (0 : Int) ≤ 36 * ((0 : Nat) : Int) by decide⟩
  | succ k ih =>
    intro w hw
    have h1 := ih (if S.testBit k then w / 9 else w) (fun j hj => hw j (by omega))
    have mb : ∀ a : Nat, a < 10 → ∀ p : Nat, p < 9 → -36 ≤ (a : Int) * ((p : Int) - 4) ∧ (a : Int) * ((p : Int) - 4) ≤ 36 := by decide +kernel
    have h2 := mb (HW k) (by have := hw k (by omega); omega) (w % 9) (by omega)
    rw [tpH]
    generalize tpH HW S k (if S.testBit k then w / 9 else w) = z at h1
    split <;> omega
section HANDS
theorem c_wageOf {h : MH} (L : lay h) (d : Nat) {k : Nat} {HW : Nat → Nat} {HG : Nat → Nat} (H : hnd h k HW HG) {S : Nat} (hS : S < 16) : F_X2_wageOf (d + 2) (nI S) h = some (.int (nI (wgN HG k S)), h) := by
  obtain ⟨hk, e3, hj⟩ := H
  rw [S_X2_wageOf L (d + 1)]
  refine (loop_all (n := k) (F := fun i => G_X2_wageOf_4 (d + 1) (nI S) (nI (wgN HG i S)) (nI i) h) (fun i hi => ?_)).trans ?_
  · show G_X2_wageOf_4 _ _ _ _ _ = _
    rw [S_X2_wageOf_4 L (d + 1), e3, if_pos (nI_lt hi (by omega)), c_holds L d (by omega) (by omega), cI_some, S_X2_wageOf_19 L (d + 1), lt_def, S_X2_wageOf_19 L (d + 1), nI_1]
    unfold wgN
    rw [sumN_s]
    by_cases b : S.testBit i = true
    · rw [if_pos b, if_neg i10, ck_pos (ib_nI (by omega) (by omega)), ix_nI (by omega), (hj i hi).2.1, nI_add, if_pos b]
    · rw [if_neg b, if_pos rfl, if_neg b]
      rfl
  · show G_X2_wageOf_4 _ _ _ _ _ = _
    rw [S_X2_wageOf_4 L (d + 1), e3, if_neg (nI_nlt (Nat.le_refl _) (by omega))]
theorem c_tipSeated {h : MH} (L : lay h) (d : Nat) {k : Nat} {HW : Nat → Nat} {HG : Nat → Nat} (H : hnd h k HW HG) {S w : Nat} (hS : S < 16) (hw : w < 2 ^ 30) : ∃ h', F_X2_tipSeated (d + 2) (nI S) (nI w) h = some (.int (zI (tpH HW S k w)), h') ∧ sm SCR h h' ∧ lay h' ∧ (∀ j, j < k → S.testBit j = true → gI h' 22 j = nI (sts S k w j)) := by
  obtain ⟨hk, e3, hj⟩ := id H
  rw [S_X2_tipSeated L (d + 1), e3, lt_def]
  have key : ∀ i z r g, i ≤ k → lay g → sm SCR h g → r < 2 ^ 30 → ∃ g', G_X2_tipSeated_9 (d + 1) (nI S) (nI w) (nI r) (zI z) (nI i - 1) g = some (.int (zI (z + tpH HW S i r)), g') ∧ sm SCR h g' ∧ lay g' ∧ (∀ j, j < i → S.testBit j = true → gI g' 22 j = nI (sts S i r j)) ∧ (∀ j, i ≤ j → gI g' 22 j = gI g 22 j) := by
    intro i
    induction i with
    | zero =>
      intro z r g _ Lg sg _
      rw [S_X2_tipSeated_9 Lg (d + 1), if_pos (by decide)]
      refine ⟨g, ?_, sg, Lg, fun j hj => by omega, fun j _ => rfl⟩
      show _ = some (Value.int (zI (z + 0)), g)
      rw [Int.add_zero]
    | succ i ih =>
      intro z r g hi Lg sg hr
      have Hg := hnd_sm sg H
      obtain ⟨w1, w2⟩ := (Hg.2.2 i (by omega)).1
      have e1 : nI i + (-1) = nI i - 1 := by rw [Int32.sub_eq_add_neg]
      rw [show nI (i + 1) - 1 = nI i from nI_pred i, S_X2_tipSeated_9 Lg (d + 1), if_neg (nIz (by omega)), c_holds Lg d (by omega) (by omega), cI_some]
      by_cases b : S.testBit i = true
      · have L5 : lay (sI g 22 i (nI (r % 9))) := layI Lg (by decide)
        obtain ⟨g', a1, a2, a3, a4, a5⟩ := ih (z + (HW i : Int) * (((r % 9 : Nat) : Int) - 4)) (r / 9) (sI g 22 i (nI (r % 9))) (by omega) L5 (sm_trans sg (sm_sI (by decide))) (by omega)
        have ez : zI z + nI (HW i) * (nI (r % 9) - 4) = zI (z + (HW i : Int) * (((r % 9 : Nat) : Int) - 4)) := by simp only [nI_zI, lit_zI, zI_add, zI_mul, zI_sub, zI_neg, if_true, if_false, Bool.false_eq_true]; rfl
        rw [if_pos b, if_neg i10, ck_pos (ib_nI (by omega) (by omega)), lt_def, nIr (by omega) (by omega) (by omega), ix_nI (by omega), ck_pos (ib_nI (by omega) (by omega)), ck_pos (ib_nI (by omega) (by omega)), lt_def, gI_sIo _ _ _ 20 _ (by decide), w1, gI_sIs, up_s, ez, nId (by omega) (by omega) (by omega), S_X2_tipSeated_40 L5 (d + 1), e1, a1]
        refine ⟨g', ?_, a2, a3, fun j hj bj => ?_, fun j hj => ?_⟩
        · rw [tpH, if_pos b, if_pos b]
          congr 4
          omega
        · by_cases q : j = i
          · subst q; rw [a5 j (Nat.le_refl _), gI_sIs, up_s, sts_k, if_pos b]
          · rw [a4 j (by omega) bj, sts_lo S i r j (by omega), if_pos b]
        · rw [a5 j (by omega), gI_sIs, up_o _ _ (by omega)]
      · obtain ⟨g', a1, a2, a3, a4, a5⟩ := ih z r g (by omega) Lg sg hr
        rw [if_neg b, if_pos rfl, S_X2_tipSeated_40 Lg (d + 1), e1, a1]
        refine ⟨g', ?_, a2, a3, fun j hj bj => ?_, fun j hj => a5 j (by omega)⟩
        · rw [tpH, if_neg b, if_neg b, Int.add_zero]
        · by_cases q : j = i
          · subst q; exact absurd bj b
          · rw [a4 j (by omega) bj, sts_lo S i r j (by omega), if_neg b]
  obtain ⟨g', a1, a2, a3, a4, -⟩ := key k 0 w h (Nat.le_refl _) L (sm_refl _ h) hw
  rw [Int.zero_add] at a1
  exact ⟨g', a1, a2, a3, a4⟩
theorem c_seat {h : MH} (L : lay h) (d : Nat) {k : Nat} {HW : Nat → Nat} {HG : Nat → Nat} (H : hnd h k HW HG) {T : Int} (hT : -1000 < T ∧ T < 1000) {S : Nat} (hS : S < 2 ^ k) : ∃ h', F_X2_seat (d + 4) (nI S) (zI T) h = some (.int (oz (fwO T HW k S)), h') ∧ sm SCR h h' ∧ lay h' ∧ (∀ w, fwO T HW k S = some w → ∀ j, j < k → S.testBit j = true → gI h' 22 j = nI (sts S k w j)) := by
  have hk := H.1
  have h16 := pow4 hk
  have e5 : popN S ≤ 4 := by unfold popN; omega
  have ep := popK_4 k hk S hS
  have p9 := pow9 (popN S) (by omega)
  rw [S_X2_seat L (d + 3), bc_pop S (by omega), cI_some, ck_pos (ib_nI (by omega) (by omega)), ix_nI (by omega), L.2.2.2.2.1, mpw_9 _ (by omega), lt_def]
  unfold fwO
  rw [ep]
  have key : ∀ m i g, i + m = 9 ^ popN S → lay g → sm SCR h g → ∃ g', G_X2_seat_7 (d + 3) (nI S) (zI T) (nI (9 ^ popN S)) (nI i) g = some (.int (oz (findO (fun w => decide (T + tpH HW S k w = 0)) m i)), g') ∧ sm SCR h g' ∧ lay g' ∧ (∀ w, findO (fun w => decide (T + tpH HW S k w = 0)) m i = some w → ∀ j, j < k → S.testBit j = true → gI g' 22 j = nI (sts S k w j)) := by
    intro m
    induction m with
    | zero =>
      intro i g hi Lg sg
      rw [S_X2_seat_7 Lg (d + 3), if_neg (nI_nlt (by omega) (by omega))]
      exact ⟨g, rfl, sg, Lg, fun w e => by cases e⟩
    | succ m ih =>
      intro i g hi Lg sg
      obtain ⟨g1, a1, a2, a3, a4⟩ := c_tipSeated Lg (d + 1) (hnd_sm sg H) (S := S) (w := i) (by omega) (by omega)
      have sg1 := sm_trans sg a2
      have tb := tpH_b (HW := HW) (S := S) k i (fun j hj => (H.2.2 j hj).1.2)
      have e0 : zI T + zI (tpH HW S k i) = 0 ↔ T + tpH HW S k i = 0 := by
        rw [zI_add, show (0 : Int32) = zI 0 by decide +kernel, zI_inj (by omega) (by omega)]
      rw [S_X2_seat_7 Lg (d + 3), if_pos (nI_lt (by omega) (by omega)), a1, cI_some, findO]
      by_cases q : T + tpH HW S k i = 0
      · rw [if_pos (e0.mpr q), decide_eq_true q, if_pos rfl]
        exact ⟨g1, rfl, sg1, a3, fun w e => by cases e; exact a4⟩
      · rw [if_neg (fun z => q (e0.mp z)), decide_eq_false q, if_neg (by decide), nI_1]
        exact ih (i + 1) g1 (by omega) a3 sg1
  exact key (9 ^ popN S) 0 h (by omega) L (sm_refl _ h)
end HANDS
/-- what a set costs, and which it is -/
def ckN (HG : Nat → Nat) (k S : Nat) : Nat := (wgN HG k S * 5 + popN S) * 16 + S
def chS (T : Int) (HW HG : Nat → Nat) (k i : Nat) (o : Option Nat) : Option Nat := match o with
  | none => if (fwO T HW k i).isSome then some i else none
  | some b => if (wgN HG k i * 5 + popN i < wgN HG k b * 5 + popN b) ∧ (fwO T HW k i).isSome = true then some i else some b
theorem c_cheapest {h : MH} (L : lay h) (d : Nat) {k : Nat} {HW HG : Nat → Nat} (H : hnd h k HW HG) {T : Int} (hT : -1000 < T ∧ T < 1000) : ∃ h', F_X2_cheapest (d + 6) (zI T) h = some (.int (oI (itr (chS T HW HG k) none (2 ^ k))), h') ∧ sm SCR h h' ∧ lay h' ∧ (∀ b w, itr (chS T HW HG k) none (2 ^ k) = some b → fwO T HW k b = some w → ∀ j, j < k → b.testBit j = true → gI h' 22 j = nI (sts b k w j)) := by
  have hk := H.1
  have h16 := pow4 hk
  rw [S_X2_cheapest L (d + 5)]
  have lt : ∀ i b, itr (chS T HW HG k) none i = some b → b < i := by
    intro i
    induction i with
    | zero => intro b e; cases e
    | succ i ih =>
      intro b e
      rw [itr] at e
      cases hb : itr (chS T HW HG k) none i with
      | none =>
        rw [hb] at e
        unfold chS at e
        dsimp only at e
        split at e
        · cases e; omega
        · cases e
      | some b' =>
        rw [hb] at e
        unfold chS at e
        dsimp only at e
        have := ih b' hb
        split at e
        · cases e; omega
        · cases e; omega
  obtain ⟨g, ⟨sg, Lg⟩, e⟩ := loop_rel (n := 2 ^ k) (σ := MH) (I := fun _ g => sm SCR h g ∧ lay g) (G := fun i g => G_X2_cheapest_4 (d + 5) (zI T) (oI (itr (chS T HW HG k) none i)) (nI i) g) (s := h) (fun i g hi ⟨sg, Lg⟩ => by
    have Hg := hnd_sm sg H
    obtain ⟨g1, a1, a2, a3, -⟩ := c_seat Lg (d + 1) Hg hT hi
    have sg1 := sm_trans sg a2
    have e19 : gI g 19 3 = nI k := Hg.2.1
    have seat : ∀ l2 : Int32, G_X2_cheapest_18 (d + 5) (zI T) l2 (nI i) g = G_X2_cheapest_4 (d + 5) (zI T) (if (fwO T HW k i).isSome then nI i else l2) (nI (i + 1)) g1 := by
      intro l2
      rw [S_X2_cheapest_18 Lg (d + 5), a1, cI_some, S_X2_cheapest_25 a3 (d + 5), S_X2_cheapest_25 a3 (d + 5), nI_1]
      cases fwO T HW k i with
      | none => rfl
      | some w => rfl
    have pre : G_X2_cheapest_4 (d + 5) (zI T) (oI (itr (chS T HW HG k) none i)) (nI i) g = (if oI (itr (chS T HW HG k) none i) = -1 then G_X2_cheapest_18 (d + 5) (zI T) (oI (itr (chS T HW HG k) none i)) (nI i) g else cI (F_X2_isCheaper (d + 5) (nI i) (oI (itr (chS T HW HG k) none i)) g) (fun x2 h1 => (if x2 = 0 then G_X2_cheapest_25 (d + 5) (zI T) (oI (itr (chS T HW HG k) none i)) (nI i) h1 else G_X2_cheapest_18 (d + 5) (zI T) (oI (itr (chS T HW HG k) none i)) (nI i) h1))) := by
      rw [S_X2_cheapest_4 Lg (d + 5), e19, one_shl (by omega), if_pos (nI_lt hi (by omega))]
    rw [show itr (chS T HW HG k) none (i + 1) = chS T HW HG k i (itr (chS T HW HG k) none i) from rfl]
    cases hb : itr (chS T HW HG k) none i with
    | none =>
      refine ⟨g1, ⟨sg1, a3⟩, ?_⟩
      show G_X2_cheapest_4 _ _ _ _ _ = G_X2_cheapest_4 _ _ _ _ _
      rw [hb] at pre
      rw [pre, if_pos (show oI none = -1 from rfl), seat]
      unfold chS
      cases fwO T HW k i <;> rfl
    | some b =>
      have hbl := lt i b hb
      have w1 := c_wageOf Lg (d + 2) Hg (S := i) (by omega)
      have w2 := c_wageOf Lg (d + 2) Hg (S := b) (by omega)
      have wb : ∀ S, wgN HG k S ≤ 99 * k := fun S => sumN_le (fun j hj => by
        have := (H.2.2 j hj).2.2
        split <;> omega)
      have b1 := wb i
      have b2 := wb b
      have p1 : popN i ≤ 4 := by unfold popN; omega
      have p2 : popN b ≤ 4 := by unfold popN; omega
      have ch : F_X2_isCheaper (d + 5) (nI i) (nI b) g = some (.int (bz (decide (wgN HG k i * 5 + popN i < wgN HG k b * 5 + popN b))), g) := by
        rw [S_X2_isCheaper Lg (d + 4), w1, cI_some, w2, cI_some, bc_pop i (by omega), cI_some, bc_pop b (by omega), cI_some]
        by_cases q1 : wgN HG k i < wgN HG k b
        · rw [if_pos (nI_lt q1 (by omega)), decide_eq_true (by omega)]; rfl
        · rw [if_neg (nI_nlt (by omega) (by omega))]
          by_cases q2 : wgN HG k i = wgN HG k b
          · rw [if_pos (congrArg nI q2)]
            by_cases q3 : popN i < popN b
            · rw [if_pos (nI_lt q3 (by omega)), decide_eq_true (by omega)]; rfl
            · rw [if_neg (nI_nlt (by omega) (by omega)), decide_eq_false (by omega)]; rfl
          · rw [if_neg (fun z => q2 ((nI_eq (by omega) (by omega)).mp z)), decide_eq_false (by omega)]; rfl
      rw [hb] at pre
      have pre' : G_X2_cheapest_4 (d + 5) (zI T) (nI b) (nI i) g = if bz (decide (wgN HG k i * 5 + popN i < wgN HG k b * 5 + popN b)) = 0 then G_X2_cheapest_25 (d + 5) (zI T) (nI b) (nI i) g else G_X2_cheapest_18 (d + 5) (zI T) (nI b) (nI i) g := by
        refine pre.trans ?_
        rw [show oI (some b) = nI b from rfl, if_neg (nI_m1 (by omega)), ch, cI_some]
      by_cases q : wgN HG k i * 5 + popN i < wgN HG k b * 5 + popN b
      · refine ⟨g1, ⟨sg1, a3⟩, ?_⟩
        show G_X2_cheapest_4 _ _ (nI b) _ _ = G_X2_cheapest_4 _ _ _ _ _
        refine pre'.trans ?_
        rw [decide_eq_true q, if_neg bz1, seat]
        unfold chS
        cases fwO T HW k i with
        | none =>
          dsimp only
          rw [if_neg (show ¬ (none : Option Nat).isSome = true by decide), if_neg (show ¬ (wgN HG k i * 5 + popN i < wgN HG k b * 5 + popN b ∧ (none : Option Nat).isSome = true) from fun z => by cases z.2)]
          rfl
        | some w =>
          dsimp only
          rw [if_pos (show (some w).isSome = true from rfl), if_pos (show wgN HG k i * 5 + popN i < wgN HG k b * 5 + popN b ∧ (some w).isSome = true from ⟨q, rfl⟩)]
          rfl
      · refine ⟨g, ⟨sg, Lg⟩, ?_⟩
        show G_X2_cheapest_4 _ _ (nI b) _ _ = G_X2_cheapest_4 _ _ _ _ _
        refine pre'.trans ?_
        rw [decide_eq_false q, if_pos (show bz false = 0 from rfl), S_X2_cheapest_25 Lg (d + 5), nI_1]
        unfold chS
        dsimp only
        rw [if_neg (fun z => q z.1)]
        rfl) ⟨sm_refl _ h, L⟩
  have e' : G_X2_cheapest_4 (d + 5) (zI T) (-1) 0 h = _ := e
  have Hg := hnd_sm sg H
  have e19 : gI g 19 3 = nI k := Hg.2.1
  rw [e', S_X2_cheapest_4 Lg (d + 5), e19, one_shl (by omega), if_neg (nI_nlt (Nat.le_refl _) (by omega))]
  cases hb : itr (chS T HW HG k) none (2 ^ k) with
  | none =>
    rw [if_pos (show oI none = -1 from rfl)]
    exact ⟨g, rfl, sg, Lg, fun b w e => by cases e⟩
  | some b =>
    have hbl := lt _ b hb
    obtain ⟨g1, a1, a2, a3, a4⟩ := c_seat Lg (d + 1) Hg hT hbl
    rw [show oI (some b) = nI b from rfl, if_neg (nI_m1 (by omega)), a1, cI_some]
    exact ⟨g1, rfl, sm_trans sg a2, a3, fun b' w e1 e2 => by cases e1; exact a4 w e2⟩
