--deps:19.lay 21.facts 22.00.names 22.01.eq 22.02.eq 22.03.eq 22.04.eq 22.05.eq 22.06.eq 22.07.eq 22.08.eq 22.09.eq 22.10.eq 22.11.eq 22.12.eq 22.13.eq 22.14.eq 22.15.eq 22.16.eq 22.17.eq 22.18.eq 22.19.eq 22.20.eq 22.21.eq 22.22.eq 22.23.eq 23.num 24.town 25.evc 26.evm 27.law 28.says 29.inv 30.api1 31.copy 32.api2 33.api3 34.api4 35.api5 36.deeds 37.hours 38.mdeeds 39.mhours 40.hist 41.full 42.acts 43.acts2 44.played 45.undo 46.trial 47.sets 48.sets2 49.image 50.ask 51.swap 52.level 60.bfs 61.seek
/-! THE CLASS EXPLORES -/
set_option linter.unusedSectionVars false
theorem BI_skip {m N : Nat} {E : Nat → Nat → Option Nat} {q key lv : Nat → Nat} {len T : Nat} (b : BI m N E q key lv len T) : ∀ k, T + k ≤ 64 * len → (∀ t, T ≤ t → t < T + k → E (q (t / 64)) (t % 64) = none) → BI m N E q key lv len (T + k) := by
  intro k
  induction k with
  | zero => intro _ _; exact b
  | succ k ih =>
    intro h1 h2
    exact BI_none (ih (by omega) (fun t h3 h4 => h2 t h3 (by omega))) (show T + k < 64 * len by omega) (h2 (T + k) (by omega) (by omega))
theorem dg_eq {n k : Nat} {Q P : Nat → Nat} (h : ∀ p, n ≤ p → Q p = P p) : dg n k Q = dg n k P := by
  funext p
  unfold dg
  by_cases c : p < n
  · rw [if_pos c, if_pos c]
  · rw [if_neg c, if_neg c]; exact h p (by omega)
theorem c_stdg {h : MH} (L : lay h) (d : Nat) {n : Nat} {W : Nat → Nat} {s : TS} (t : CT h 43 n W s) : F_X9_standing (d + 1) 43 h = some (.int (nI (stN n s.1)), h) := by
  have hn := t.1
  have e0 : gI h 43 0 = nI n := t.2.1
  rw [S_X9_standing L d 43 tAt43]
  have e := loop_all (n := n) (F := fun i => G_X9_standing_4 d 43 (nI (stN i s.1)) (nI i) h) (fun i hi => by
    show G_X9_standing_4 _ _ _ _ _ = G_X9_standing_4 _ _ _ _ _
    have hP : gI h 45 i = nI (s.1 i) := (t.2.2.2.1 i (by omega)).1
    rw [S_X9_standing_4 L d 43 tAt43, e0, if_pos (nI_lt hi (by omega)), ck_pos (ib_nI (by omega) (by omega)), ck_pos (ib_nI (by omega) (by omega)), lt_def, ix_nI (by omega), L.2.2.2.2.1, mpw_9 i (by omega), hP, pk_mul, nI_add, nI_1]
    rfl)
  refine (show G_X9_standing_4 d 43 0 0 h = _ from e).trans ?_
  rw [S_X9_standing_4 L d 43 tAt43, e0, if_neg (nI_nlt (Nat.le_refl _) (by omega))]
/-- what the trace says of the ith -/
def trI (q key : Nat → Nat) (i : Nat) : Int32 := if i = 0 then -3 else nI (64 * q (key i / 64) + key i % 64)
section explore
variable {h : MH} {n : Nat} {W P : Nat → Nat} {R : (Nat → Nat) × Nat × Nat × Nat × (Nat → Int32)} {dt ds : Option Den} {gl : Nat → Int32} {gd : Nat → Bool}
def CS0 (h : MH) (n : Nat) (dt ds : Option Den) (gl : Nat → Int32) (gd : Nat → Bool) (q key : Nat → Nat) (len : Nat) (z : MH) : Prop :=
  (lay z ∧ sm SCR h z) ∧ (rlC z (gR z 43 9) dt ds ∧ ∀ p, p < n → gI z 46 p = gl p) ∧ (gI z 60 2 = nI len ∧ ∀ i, i < len → gI z 62 i = nI (q i)) ∧
  (∀ i, i < len → gI z 61 (q i) = trI q key i) ∧ (∀ y, y < 9 ^ n → (∀ i, i < len → ¬ q i = y) → gI z 61 y = -1 ∨ (gI z 61 y = -2 ∧ gd y = false))
def CSG (n : Nat) (gl : Nat → Int32) (q : Nat → Nat) (len : Nat) (v : Int32) : Prop := (v = -1 ∧ ∀ i, i < len → hmR gl (q i) n = false) ∨ ∃ p, p < len ∧ v = nI (q p) ∧ hmR gl (q p) n = true ∧ ∀ i, i < p → hmR gl (q i) n = false
def CSQ (z : MH) (n : Nat) (W P : Nat → Nat) (R : (Nat → Nat) × Nat × Nat × Nat × (Nat → Int32)) : Prop := ∃ Q, CT z 43 n W (Q, R) ∧ ∀ p, n ≤ p → Q p = P p
theorem CS0_f {q key : Nat → Nat} {len : Nat} {z z' : MH} (s : sm (43 :: 44 :: 45 :: 47 :: 48 :: 49 :: 63 :: []) z z') (L : lay z') (er : gR z' 43 = gR z 43) (c : CS0 h n dt ds gl gd q key len z) : CS0 h n dt ds gl gd q key len z' := by
  obtain ⟨⟨Lz, sz⟩, ⟨rl, eg⟩, ⟨e2, e62⟩, tr, un⟩ := c
  have g60 := sm_gI s (a := 60) (by decide) (by decide)
  have g61 := sm_gI s (a := 61) (by decide) (by decide)
  have g62 := sm_gI s (a := 62) (by decide) (by decide)
  have g46 := sm_gI s (a := 46) (by decide) (by decide)
  refine ⟨⟨L, sm_trans sz (sm_mono s (by decide))⟩, ⟨by rw [er]; exact rlC_sm s rl, by rw [g46]; exact eg⟩, ⟨by rw [g60]; exact e2, by rw [g62]; exact e62⟩, by rw [g61]; exact tr, by rw [g61]; exact un⟩
theorem CSQ_f {z z' : MH} (s : sm [60, 61, 62] z z') (c : CSQ z n W P R) : CSQ z' n W P R := by
  obtain ⟨Q, t, q1⟩ := c
  exact ⟨Q, CT_eq (sm_gI s (by decide) (by decide)) (sm_gI s (by decide) (by decide)) (sm_gI s (by decide) (by decide)) (sm_gI s (by decide) (by decide)) (sm_gI s (by decide) (by decide)) t, q1⟩
theorem c_come (d : Nat) {q key : Nat → Nat} {len T y : Nat} {z : MH} {v : Int32} (hn : n ≤ 4) (c : CS0 h n dt ds gl gd q key len z) (g : CSG n gl q len (gI z 60 3)) {Q : Nat → Nat} (t : CT z 43 n W (Q, R)) (q1 : ∀ p, n ≤ p → Q p = P p) (es : ∀ p, p < n → Q p = y / 9 ^ p % 9) (hy : y < 9 ^ n) (qb : ∀ i, i < len → q i < 9 ^ n) (nq : ∀ i, i < len → ¬ q i = y) (hl : len < 6561) (kb : ∀ i, 1 ≤ i → i < len → key i / 64 < i) (ev : v = trI (va_up q len y) (va_up key len T) len) :
    ∃ z', F_X5_come (d + 2) (nI y) v z = some (.int 0, z') ∧ CS0 h n dt ds gl gd (va_up q len y) (va_up key len T) (len + 1) z' ∧ CSG n gl (va_up q len y) (len + 1) (gI z' 60 3) ∧ CSQ z' n W P R := by
  have n9 := pow9 n (by omega)
  obtain ⟨⟨Lz, sz⟩, ⟨rl, eg⟩, ⟨e2, e62⟩, tr, un⟩ := c
  have key0 : ∀ (z1 z2 z3 : MH), z1 = sI z 61 y v → z2 = sI z1 62 len (nI y) → z3 = sI z2 60 2 (nI (len + 1)) → CS0 h n dt ds gl gd (va_up q len y) (va_up key len T) (len + 1) z3 ∧ sm [60, 61, 62] z z3 ∧ lay z3 ∧ gI z3 60 3 = gI z 60 3 := by
    intro z1 z2 z3 h1 h2 h3
    subst h1; subst h2; subst h3
    have s3 : sm [60, 61, 62] z (sI (sI (sI z 61 y v) 62 len (nI y)) 60 2 (nI (len + 1))) := sm_trans (sm_trans (sm_sI (by decide)) (sm_sI (by decide))) (sm_sI (by decide))
    have L3 : lay (sI (sI (sI z 61 y v) 62 len (nI y)) 60 2 (nI (len + 1))) := layI (layI (layI Lz (by decide)) (by decide)) (by decide)
    have g61 : gI (sI (sI (sI z 61 y v) 62 len (nI y)) 60 2 (nI (len + 1))) 61 = va_up (gI z 61) y v := by
      rw [gI_sIo _ _ _ _ _ (by decide), gI_sIo _ _ _ _ _ (by decide), gI_sIs]
    have g62 : gI (sI (sI (sI z 61 y v) 62 len (nI y)) 60 2 (nI (len + 1))) 62 = va_up (gI z 62) len (nI y) := by
      rw [gI_sIo _ _ _ _ _ (by decide), gI_sIs, gI_sIo _ _ _ _ _ (by decide)]
    have g60 : gI (sI (sI (sI z 61 y v) 62 len (nI y)) 60 2 (nI (len + 1))) 60 = va_up (gI z 60) 2 (nI (len + 1)) := by
      rw [gI_sIs, gI_sIo _ _ _ _ _ (by decide), gI_sIo _ _ _ _ _ (by decide)]
    refine ⟨⟨⟨L3, sm_trans sz (sm_mono s3 (by decide))⟩, ⟨by rw [sm_gR s3 (Or.inl (by decide))]; exact rlC_sm s3 rl, by rw [sm_gI s3 (by decide) (by decide)]; exact eg⟩, ⟨by rw [g60, up_s], fun i hi => ?_⟩, fun i hi => ?_, fun w hw nw => ?_⟩, s3, L3, by rw [g60, up_o _ _ (by decide)]⟩
    · rw [g62]
      by_cases e : i = len
      · subst e; rw [up_s, up_s]
      · rw [up_o _ _ e, up_o _ _ e]; exact e62 i (by omega)
    · rw [g61]
      by_cases e : i = len
      · subst e; rw [up_s, up_s, ev]
      · rw [up_o q _ e, up_o _ _ (nq i (by omega)), tr i (by omega)]
        unfold trI
        by_cases i0 : i = 0
        · rw [if_pos i0, if_pos i0]
        · have := kb i (by omega) (by omega)
          rw [if_neg i0, if_neg i0, up_o key _ e, up_o q _ (show ¬ key i / 64 = len by omega)]
    · rw [g61]
      have wy : ¬ w = y := fun e => nw len (by omega) (by rw [up_s, e])
      rw [up_o _ _ wy]
      exact un w hw (fun i hi e => nw i (by omega) (by rw [up_o q _ (show ¬ i = len by omega)]; exact e))
  obtain ⟨c3, s3, L3, g3⟩ := key0 _ _ _ rfl rfl rfl
  have t3 : CT (sI (sI (sI z 61 y v) 62 len (nI y)) 60 2 (nI (len + 1))) 43 n W (Q, R) := CT_eq (sm_gI s3 (by decide) (by decide)) (sm_gI s3 (by decide) (by decide)) (sm_gI s3 (by decide) (by decide)) (sm_gI s3 (by decide) (by decide)) (sm_gI s3 (by decide) (by decide)) t
  rw [S_X5_come Lz (d + 1), e2, if_pos ((nIl (by omega) (by omega)).mpr hl), ck_pos (ib_nI (by omega) (by omega)), lt_def, ix_nI (by omega), gI_sIo z 61 y 60 v (by decide), e2, ck_pos (ib_nI (by omega) (by omega)), lt_def, ix_nI (by omega), gI_sIo _ 62 len 60 (nI y) (by decide), gI_sIo z 61 y 60 v (by decide), e2, lt_def, nI_1, g3, c_home L3 d t3 (gl := gl) (fun p hp => by rw [sm_gI s3 (by decide) (by decide)]; exact eg p hp) es, cI_some]
  generalize sI (sI (sI z 61 y v) 62 len (nI y)) 60 2 (nI (len + 1)) = z3 at c3 s3 L3 g3 t3
  rcases g with ⟨gv, no⟩ | ⟨p, hp, gv, hmp, fst⟩
  · rw [if_pos gv]
    cases hh : hmR gl y n with
    | false =>
      rw [if_pos (show bz false = 0 from rfl)]
      refine ⟨z3, rfl, c3, Or.inl ⟨g3.trans gv, fun i hi => ?_⟩, Q, t3, q1⟩
      by_cases e : i = len
      · subst e; rw [up_s]; exact hh
      · rw [up_o _ _ e]; exact no i (by omega)
    | true =>
      rw [if_neg (show ¬ bz true = 0 by decide), lt_def]
      have s4 : sm [60, 61, 62] z3 (sI z3 60 3 (nI y)) := sm_sI (by decide)
      have L4 : lay (sI z3 60 3 (nI y)) := layI L3 (by decide)
      refine ⟨sI z3 60 3 (nI y), rfl, ?_, Or.inr ⟨len, by omega, by rw [gI_sIs, up_s, up_s], by rw [up_s]; exact hh, fun i hi => by rw [up_o _ _ (by omega)]; exact no i hi⟩, CSQ_f s4 ⟨Q, t3, q1⟩⟩
      obtain ⟨⟨-, sz3⟩, ⟨rl3, eg3⟩, ⟨e23, e623⟩, tr3, un3⟩ := c3
      refine ⟨⟨L4, sm_trans sz3 (sm_mono s4 (by decide))⟩, ⟨by rw [sm_gR s4 (Or.inl (by decide))]; exact rlC_sm s4 rl3, by rw [gI_sIo _ _ _ _ _ (by decide)]; exact eg3⟩, ⟨by rw [gI_sIs, up_o _ _ (by decide)]; exact e23, by rw [gI_sIo _ _ _ _ _ (by decide)]; exact e623⟩, by rw [gI_sIo _ _ _ _ _ (by decide)]; exact tr3, by rw [gI_sIo _ _ _ _ _ (by decide)]; exact un3⟩
  · rw [if_neg (by rw [gv]; exact nI_m1 (by have := qb p hp; omega))]
    refine ⟨z3, rfl, c3, Or.inr ⟨p, by omega, by rw [g3, gv, up_o _ _ (show ¬ p = len by omega)], by rw [up_o _ _ (show ¬ p = len by omega)]; exact hmp, fun i hi => by rw [up_o _ _ (show ¬ i = len by omega)]; exact fst i hi⟩, Q, t3, q1⟩
/-- one going -/
theorem c_going (d : Nat) {w : Bool} {q key lv : Nat → Nat} {len hd g x : Nat} {z : MH} {l3 : Int32} {o6 : Option Value} (hn : n ≤ 4) (hgd : ∀ y, gd y = stl n W (dg n y P) R.1 R.2.1 dt) (b : BI 1 (9 ^ n) (EG n w gd) q key lv len (64 * hd + g)) (c : CS0 h n dt ds gl gd q key len z) (gg : CSG n gl q len (gI z 60 3)) (cq : CSQ z n W P R) (hh : hd < len) (hg : g < cond w 64 8) (ex : q hd = x) :
    ∃ q' key' lv' len' z' o', G_X5_expand_8 (d + 4) (nI x) l3 (nI (cond w 64 8)) (nI g) o6 z = G_X5_expand_8 (d + 4) (nI x) l3 (nI (cond w 64 8)) (nI (g + 1)) o' z' ∧ BI 1 (9 ^ n) (EG n w gd) q' key' lv' len' (64 * hd + (g + 1)) ∧ CS0 h n dt ds gl gd q' key' len' z' ∧ CSG n gl q' len' (gI z' 60 3) ∧ CSQ z' n W P R ∧ len ≤ len' ∧ (∀ i, i < len → q' i = q i) := by
  have n9 := pow9 n (by omega)
  have g64 : g < 64 := by cases w <;> simp only [cond_true, cond_false] at hg <;> omega
  have cw : cond w 64 8 < 2 ^ 31 := by cases w <;> decide
  have hx : x < 9 ^ n := by rw [← ex]; exact b.1.2.2.1 hd hh
  have e1 : (64 * hd + g) / 64 = hd := by omega
  have e2' : (64 * hd + g) % 64 = g := by omega
  have hT : 64 * hd + g < 64 * len := by omega
  obtain ⟨Q, t, q1⟩ := id cq
  obtain ⟨⟨Lz, sz⟩, ⟨rl, eg⟩, ⟨e2, e62⟩, tr, un⟩ := id c
  have e43 : gI z 43 0 = nI n := t.2.1
  have bN : EG n w gd x g = none → BI 1 (9 ^ n) (EG n w gd) q key lv len (64 * hd + (g + 1)) := by
    intro en
    have := BI_none b hT (by rw [e1, e2', ex]; exact en)
    exact this
  have bO : ∀ y i, EG n w gd x g = some y → i < len → q i = y → BI 1 (9 ^ n) (EG n w gd) q key lv len (64 * hd + (g + 1)) := by
    intro y i en hi ei
    have := BI_old b hT (y := y) (by rw [e1, e2', ex]; exact en) hi ei
    exact this
  rw [S_X5_expand_8 Lz (d + 4), if_pos (nI_lt hg cw), e43, c_leads Lz (d + 2) hn hx g64, cI_some]
  have fin : ∀ y o6, ldT n x g = some y → EG n w gd x g = none → ∃ q' key' lv' len' z' o', G_X5_expand_47 (d + 4) (nI x) l3 (nI (cond w 64 8)) (nI g) o6 z = G_X5_expand_8 (d + 4) (nI x) l3 (nI (cond w 64 8)) (nI (g + 1)) o' z' ∧ BI 1 (9 ^ n) (EG n w gd) q' key' lv' len' (64 * hd + (g + 1)) ∧ CS0 h n dt ds gl gd q' key' len' z' ∧ CSG n gl q' len' (gI z' 60 3) ∧ CSQ z' n W P R ∧ len ≤ len' ∧ (∀ i, i < len → q' i = q i) := by
    intro y o6 _ en
    exact ⟨q, key, lv, len, z, _, by rw [S_X5_expand_47 Lz (d + 4), nI_1], bN en, c, gg, cq, Nat.le_refl _, fun _ _ => rfl⟩
  cases el : ldT n x g with
  | none =>
    rw [if_pos (show onI none = -1 from rfl)]
    exact ⟨q, key, lv, len, z, _, by rw [S_X5_expand_47 Lz (d + 4), nI_1], bN (by unfold EG; rw [el]; split <;> rfl), c, gg, cq, Nat.le_refl _, fun _ _ => rfl⟩
  | some y =>
    have hy := ldT_lt hn hx el
    have g58 : g < cond w 58 8 := by
      cases w with
      | false => exact hg
      | true =>
        show g < 58
        by_cases q : g < 58
        · exact q
        · unfold ldT at el
          rw [if_neg (by omega), if_neg (by omega), if_neg (by omega)] at el
          cases el
    have eE : EG n w gd x g = cond (gd y) (some y) none := by
      unfold EG
      rw [if_pos g58, el]
      rfl
    rw [if_neg (show ¬ onI (some y) = -1 from nI_m1 (by omega)), show onI (some y) = nI y from rfl, ck_pos (ib_nI (by omega) (by omega)), ix_nI (by omega)]
    by_cases inq : ∃ i, i < len ∧ q i = y
    · obtain ⟨i, hi, ei⟩ := inq
      have ne : ¬ gI z 61 y = -1 := by
        rw [← ei, tr i hi]
        unfold trI
        by_cases i0 : i = 0
        · rw [if_pos i0]; decide
        · rw [if_neg i0]
          have := b.1.2.2.1 (key i / 64) (by have := (b.2.1.2 i (by omega) hi).2.1; omega)
          exact nI_m1 (by omega)
      rw [if_neg ne]
      cases hgy : gd y with
      | false => exact fin y _ el (by rw [eE, hgy]; rfl)
      | true => exact ⟨q, key, lv, len, z, _, by rw [S_X5_expand_47 Lz (d + 4), nI_1], bO y i (by rw [eE, hgy]; rfl) hi ei, c, gg, cq, Nat.le_refl _, fun _ _ => rfl⟩
    · have nq : ∀ i, i < len → ¬ q i = y := fun i hi e => inq ⟨i, hi, e⟩
      rcases un y hy nq with u1 | ⟨u2, hgy⟩
      · obtain ⟨z1, s1, t1, f1⟩ := c_standAs Lz (d + 3) tAt43 t (k := y) (by omega)
        have rl1 := CF_rl f1 rl
        obtain ⟨z2, s2, t2, f2⟩ := c_stl f1.2.2 d tAt43 t1 rl1
        have f12 := CF_trans f1 f2
        have c2 : CS0 h n dt ds gl gd q key len z2 := CS0_f (sm_mono f12.1 (by decide)) f12.2.2 f12.2.1 c
        have g2 : gI z2 60 = gI z 60 := sm_gI f12.1 (by decide) (by decide)
        have gg2 : CSG n gl q len (gI z2 60 3) := by rw [g2]; exact gg
        have ed : dg n y Q = dg n y P := dg_eq q1
        have q2 : ∀ p, n ≤ p → dg n y Q p = P p := fun p hp => by
          unfold dg
          rw [if_neg (by omega)]
          exact q1 p hp
        have es : ∀ p, p < n → dg n y Q p = y / 9 ^ p % 9 := fun p hp => by
          unfold dg
          rw [if_pos hp]
        rw [if_pos u1, s1, cV_some, s2, cI_some]
        dsimp only
        rw [ed, ← hgd y]
        cases hgy : gd y with
        | false =>
          rw [if_pos (show bz false = 0 from rfl), ck_pos (ib_nI (by omega) (by omega)), lt_def]
          have L3 : lay (sI z2 61 y (-2)) := layI f12.2.2 (by decide)
          have s3 : sm [60, 61, 62] z2 (sI z2 61 y (-2)) := sm_sI (by decide)
          refine ⟨q, key, lv, len, sI z2 61 y (-2), _, by rw [S_X5_expand_47 L3 (d + 4), nI_1], bN (by rw [eE, hgy]; rfl), ?_, by rw [gI_sIo _ _ _ _ _ (by decide)]; exact gg2, CSQ_f s3 ⟨_, t2, q2⟩, Nat.le_refl _, fun _ _ => rfl⟩
          obtain ⟨⟨Lz2, sz2⟩, ⟨rl2, eg2⟩, ⟨e22, e622⟩, tr2, un2⟩ := c2
          refine ⟨⟨L3, sm_trans sz2 (sm_mono s3 (by decide))⟩, ⟨by rw [sm_gR s3 (Or.inl (by decide))]; exact rlC_sm s3 rl2, by rw [gI_sIo _ _ _ _ _ (by decide)]; exact eg2⟩, ⟨by rw [gI_sIo _ _ _ _ _ (by decide)]; exact e22, by rw [gI_sIo _ _ _ _ _ (by decide)]; exact e622⟩, fun i hi => by rw [gI_sIs, up_o _ _ (nq i hi)]; exact tr2 i hi, fun u hu nu => ?_⟩
          rw [gI_sIs]
          by_cases e : u = y
          · subst e; rw [up_s]; exact Or.inr ⟨rfl, hgy⟩
          · rw [up_o _ _ e]; exact un2 u hu nu
        | true =>
          rw [if_neg (show ¬ bz true = 0 by decide)]
          have bn := BI_new b hT (y := y) (by rw [e1, e2', ex, eE, hgy]; rfl) hy nq
          have hl := BI_len bn
          have l0 : 1 ≤ len := b.1.1
          obtain ⟨z3, s3, c3, g3, cq3⟩ := c_come (W := W) (P := P) (R := R) (d + 2) (T := 64 * hd + g) (v := (nI x * 64) + nI g) hn c2 gg2 t2 q2 es hy b.1.2.2.1 nq (by omega) (fun i h1 h2 => (b.2.1.2 i h1 h2).2.1) (by
            unfold trI
            rw [if_neg (by omega), up_s, e1, e2', up_o q _ (show ¬ hd = len by omega), ex, nIn, nI_add, Nat.mul_comm])
          rw [s3, cV_some]
          exact ⟨_, _, _, _, z3, _, by rw [S_X5_expand_47 c3.1.1 (d + 4), nI_1], bn, c3, g3, cq3, by omega, fun i hi => up_o q _ (by omega)⟩
      · rw [if_neg (by rw [u2]; decide)]
        exact fin y _ el (by rw [eE, hgy]; rfl)
theorem c_expand (d : Nat) {a : Int32} {w : Bool} (ew : w = !(decide (a = 0))) {q key lv : Nat → Nat} {len hd x : Nat} {z : MH} (hn : n ≤ 4) (hgd : ∀ y, gd y = stl n W (dg n y P) R.1 R.2.1 dt) (b : BI 1 (9 ^ n) (EG n w gd) q key lv len (64 * hd)) (c : CS0 h n dt ds gl gd q key len z) (gg : CSG n gl q len (gI z 60 3)) (cq : CSQ z n W P R) (hh : hd < len) (ex : q hd = x) :
    ∃ q' key' lv' len' z', F_X5_expand (d + 5) (nI x) a z = some (.int 0, z') ∧ BI 1 (9 ^ n) (EG n w gd) q' key' lv' len' (64 * (hd + 1)) ∧ CS0 h n dt ds gl gd q' key' len' z' ∧ CSG n gl q' len' (gI z' 60 3) ∧ CSQ z' n W P R ∧ len ≤ len' ∧ (∀ i, i < len → q' i = q i) := by
  have cw : cond w 64 8 < 2 ^ 31 := by cases w <;> decide
  obtain ⟨⟨q', key', lv', len', z', o'⟩, ⟨b', c', g', cq', l', s'⟩, e⟩ := loop_rel (n := cond w 64 8) (σ := (Nat → Nat) × (Nat → Nat) × (Nat → Nat) × Nat × MH × Option Value) (I := fun i st => BI 1 (9 ^ n) (EG n w gd) st.1 st.2.1 st.2.2.1 st.2.2.2.1 (64 * hd + i) ∧ CS0 h n dt ds gl gd st.1 st.2.1 st.2.2.2.1 st.2.2.2.2.1 ∧ CSG n gl st.1 st.2.2.2.1 (gI st.2.2.2.2.1 60 3) ∧ CSQ st.2.2.2.2.1 n W P R ∧ len ≤ st.2.2.2.1 ∧ ∀ i, i < len → st.1 i = q i) (G := fun i st => G_X5_expand_8 (d + 4) (nI x) a (nI (cond w 64 8)) (nI i) st.2.2.2.2.2 st.2.2.2.2.1) (s := (q, key, lv, len, z, none)) (fun i st hi ⟨bi, ci, gi, cqi, li, si⟩ => by
    obtain ⟨q1, key1, lv1, len1, z1, o1, e1, b1, c1, g1, cq1, l1, s1⟩ := c_going (W := W) (P := P) (R := R) (l3 := a) (o6 := st.2.2.2.2.2) d hn hgd bi ci gi cqi (show hd < st.2.2.2.1 by omega) hi (x := x) (by rw [si hd hh]; exact ex)
    exact ⟨(q1, key1, lv1, len1, z1, o1), ⟨b1, c1, g1, cq1, Nat.le_trans li l1, fun j hj => by rw [← si j hj]; exact s1 j (by omega)⟩, e1⟩) ⟨b, c, gg, cq, Nat.le_refl _, fun _ _ => rfl⟩
  have e' : G_X5_expand_8 (d + 4) (nI x) a (nI (cond w 64 8)) 0 none z = G_X5_expand_8 (d + 4) (nI x) a (nI (cond w 64 8)) (nI (cond w 64 8)) o' z' := e
  refine ⟨q', key', lv', len', z', ?_, ?_, c', g', cq', l', s'⟩
  · rw [S_X5_expand c.1.1 (d + 4), S_X5_expand_5 c.1.1 (d + 4), S_X5_expand_5 c.1.1 (d + 4)]
    have fin : G_X5_expand_8 (d + 4) (nI x) a (nI (cond w 64 8)) (nI (cond w 64 8)) o' z' = some (.int 0, z') := by
      rw [S_X5_expand_8 c'.1.1 (d + 4), if_neg (nI_nlt (Nat.le_refl _) cw)]
    by_cases a0 : a = 0
    · rw [if_pos a0]
      rw [decide_eq_true a0] at ew
      subst ew
      exact e'.trans fin
    · rw [if_neg a0]
      rw [decide_eq_false a0] at ew
      subst ew
      exact e'.trans fin
  · dsimp only at b' l'
    cases w with
    | true => exact b'
    | false =>
      have := BI_skip b' 56 (by show 64 * hd + 8 + 56 ≤ _; omega) (fun t h1 h2 => by
        have h1' : 64 * hd + 8 ≤ t := h1
        have h2' : t < 64 * hd + 8 + 56 := h2
        unfold EG
        rw [if_neg (show ¬ t % 64 < cond false 58 8 by show ¬ t % 64 < 8; omega)])
      exact this
theorem c_explore23 (d : Nat) {a l3 : Int32} {w : Bool} (ew : w = !(decide (a = 0))) (hn : n ≤ 4) (hgd : ∀ y, gd y = stl n W (dg n y P) R.1 R.2.1 dt) : ∀ m hd q key lv len z, hd + m = 9 ^ n → hd ≤ len → BI 1 (9 ^ n) (EG n w gd) q key lv len (64 * hd) → CS0 h n dt ds gl gd q key len z → CSG n gl q len (gI z 60 3) → CSQ z n W P R →
    ∃ q' key' lv' len' z' hd', G_X5_explore_23 (d + 5) a l3 (nI hd) z = some (.int 0, z') ∧ BI 1 (9 ^ n) (EG n w gd) q' key' lv' len' (64 * hd') ∧ CS0 h n dt ds gl gd q' key' len' z' ∧ CSG n gl q' len' (gI z' 60 3) ∧ q' 0 = q 0 ∧ (hd' = len' ∨ ¬ l3 = 0 ∧ ¬ gI z' 60 3 = -1) := by
  have n9 := pow9 n (by omega)
  intro m
  induction m with
  | zero =>
    intro hd q key lv len z hm hl b c gg cq
    have := BI_len b
    refine ⟨q, key, lv, len, z, hd, ?_, b, c, gg, rfl, Or.inl (by omega)⟩
    rw [S_X5_explore_23 c.1.1 (d + 5), c.2.2.1.1, if_neg (show ¬ nI hd < nI len from nI_nlt (by omega) (by omega))]
    split <;> rfl
  | succ m ih =>
    intro hd q key lv len z hm hl b c gg cq
    have h1 := BI_len b
    by_cases hh : hd < len
    · have step : ∃ q' key' lv' len' z' hd', G_X5_explore_36 (d + 5) a l3 (nI hd) z = some (.int 0, z') ∧ BI 1 (9 ^ n) (EG n w gd) q' key' lv' len' (64 * hd') ∧ CS0 h n dt ds gl gd q' key' len' z' ∧ CSG n gl q' len' (gI z' 60 3) ∧ q' 0 = q 0 ∧ (hd' = len' ∨ ¬ l3 = 0 ∧ ¬ gI z' 60 3 = -1) := by
        obtain ⟨q1, key1, lv1, len1, z1, e1, b1, c1, g1, cq1, l1, s1⟩ := c_expand (W := W) (P := P) (R := R) d ew hn hgd b c gg cq hh rfl
        obtain ⟨q2, key2, lv2, len2, z2, hd2, e2, b2, c2, g2, s2, f2⟩ := ih (hd + 1) q1 key1 lv1 len1 z1 (by omega) (by omega) b1 c1 g1 cq1
        refine ⟨q2, key2, lv2, len2, z2, hd2, ?_, b2, c2, g2, s2.trans (s1 0 (by omega)), f2⟩
        rw [S_X5_explore_36 c.1.1 (d + 5), ck_pos (ib_nI (by omega) (by omega)), ix_nI (by omega), c.2.2.1.2 hd hh, e1, cV_some, nI_1, e2]
      rw [S_X5_explore_23 c.1.1 (d + 5), c.2.2.1.1, if_pos ((nIl (by omega) (by omega)).mpr (by omega)), if_pos (nI_lt hh (by omega))]
      by_cases l0 : l3 = 0
      · rw [if_pos l0]; exact step
      · rw [if_neg l0]
        by_cases gm : gI z 60 3 = -1
        · rw [if_pos gm]; exact step
        · rw [if_neg gm]
          exact ⟨q, key, lv, len, z, hd, rfl, b, c, gg, rfl, Or.inr ⟨l0, gm⟩⟩
    · refine ⟨q, key, lv, len, z, hd, ?_, b, c, gg, rfl, Or.inl (by omega)⟩
      rw [S_X5_explore_23 c.1.1 (d + 5), c.2.2.1.1, if_neg (show ¬ nI hd < nI len from nI_nlt (by omega) (by omega))]
      split <;> rfl
theorem c_explore (d : Nat) {a l3 : Int32} {w : Bool} (ew : w = !(decide (a = 0))) (hgd : ∀ y, gd y = stl n W (dg n y P) R.1 R.2.1 dt) {z : MH} (L : lay z) (sz : sm SCR h z) (t : CT z 43 n W (P, R)) (rl : rlC z (gR z 43 9) dt ds) (eg : ∀ p, p < n → gI z 46 p = gl p) :
    ∃ q' key' lv' len' z' hd', F_X5_explore (d + 6) a l3 z = some (.int 0, z') ∧ BI 1 (9 ^ n) (EG n w gd) q' key' lv' len' (64 * hd') ∧ CS0 h n dt ds gl gd q' key' len' z' ∧ CSG n gl q' len' (gI z' 60 3) ∧ q' 0 = stN n P ∧ (hd' = len' ∨ ¬ l3 = 0 ∧ ¬ gI z' 60 3 = -1) := by
  have hn := t.1
  have n9 := pow9 n (by omega)
  have hP : ∀ p, p < n → P p ≤ 8 := fun p hp => (t.2.2.2.1 p (by omega)).2
  have st9 := stN_lt hP
  have e43 : gI z 43 0 = nI n := t.2.1
  obtain ⟨z1, e1, s1, L1, f1⟩ := c_fill L (d + 3) (N := 9 ^ n) n9.2
  have s3 : sm [60, 61] z (sI (sI z1 60 2 0) 60 3 (-1)) := sm_trans (sm_mono s1 (by decide)) (sm_trans (sm_sI (by decide)) (sm_sI (by decide)))
  have L3 : lay (sI (sI z1 60 2 0) 60 3 (-1)) := layI (layI L1 (by decide)) (by decide)
  have t3 : CT (sI (sI z1 60 2 0) 60 3 (-1)) 43 n W (P, R) := CT_eq (sm_gI s3 (by decide) (by decide)) (sm_gI s3 (by decide) (by decide)) (sm_gI s3 (by decide) (by decide)) (sm_gI s3 (by decide) (by decide)) (sm_gI s3 (by decide) (by decide)) t
  have c0 : CS0 h n dt ds gl gd (fun _ => 0) (fun _ => 0) 0 (sI (sI z1 60 2 0) 60 3 (-1)) := by
    refine ⟨⟨L3, sm_trans sz (sm_mono s3 (by decide))⟩, ⟨by rw [sm_gR s3 (Or.inl (by decide))]; exact rlC_sm s3 rl, by rw [sm_gI s3 (by decide) (by decide)]; exact eg⟩, ⟨by rw [gI_sIs, up_o _ _ (by decide), gI_sIs, up_s]; rfl, fun i hi => by omega⟩, fun i hi => by omega, fun y hy _ => Or.inl ?_⟩
    rw [gI_sIo _ _ _ _ _ (by decide), gI_sIo _ _ _ _ _ (by decide)]
    exact f1 y hy
  have g0 : CSG n gl (fun _ => 0) 0 (gI (sI (sI z1 60 2 0) 60 3 (-1)) 60 3) := Or.inl ⟨by rw [gI_sIs, up_s], fun i hi => by omega⟩
  obtain ⟨z4, e4, c4, g4, cq4⟩ := c_come (W := W) (P := P) (R := R) (d + 3) (T := 0) (y := stN n P) (v := -3) hn c0 g0 t3 (fun _ _ => rfl) (fun p hp => (stN_dg hP p hp).symm) st9 (fun i hi => by omega) (fun i hi => by omega) (by omega) (fun i _ hi => by omega) rfl
  have b4 : BI 1 (9 ^ n) (EG n w gd) (va_up (fun _ => 0) 0 (stN n P)) (va_up (fun _ => 0) 0 0) (fun _ => 0) 1 (64 * 0) := BI_0 (fun i hi => by
    have : i = 0 := by omega
    subst this
    rw [up_s]
    exact st9) (fun i j h1 h2 => by omega) (fun i hi => rfl)
  obtain ⟨q', key', lv', len', z', hd', e5, b5, c5, g5, s5, f5⟩ := c_explore23 (W := W) (P := P) (R := R) d (l3 := l3) ew hn hgd (9 ^ n) 0 _ _ _ _ _ (by omega) (by omega) b4 c4 g4 cq4
  refine ⟨q', key', lv', len', z', hd', ?_, b5, c5, g5, s5.trans (up_s _ _ _), f5⟩
  rw [S_X5_explore L (d + 5), e43, ck_pos (ib_nI (by omega) (by omega)), ix_nI (by omega), L.2.2.2.2.1, mpw_9 n (by omega), e1, cV_some, lt_def, lt_def, c_stdg L3 (d + 4) t3, cI_some, e4, cV_some]
  exact e5
end explore
