--deps:19.lay 21.facts 22.00.names 22.01.eq 22.02.eq 22.03.eq 22.04.eq 22.05.eq 22.06.eq 22.07.eq 22.08.eq 22.09.eq 22.10.eq 22.11.eq 22.12.eq 22.13.eq 22.14.eq 22.15.eq 22.16.eq 22.17.eq 22.18.eq 22.19.eq 22.20.eq 22.21.eq 22.22.eq 22.23.eq 23.num 24.town 25.evc 26.evm 27.law 28.says 29.inv 30.api1 31.copy 32.api2 33.api3 34.api4 35.api5 36.deeds 37.hours 38.mdeeds 39.mhours 40.hist 41.full 42.acts 43.acts2 44.played 45.undo 46.trial 47.sets 48.sets2 49.image 50.ask 51.swap 52.level 60.bfs
/-! GOINGS and goals, in both -/
set_option linter.unusedSectionVars false
def onI (o : Option Nat) : Int32 := match o with
  | none => -1
  | some y => nI y
theorem c_fill {h : MH} (L : lay h) (d : Nat) {N : Nat} (hN : N ≤ 6561) : ∃ h', mE mtab (d + 2) 231 [.ref 61, .int 0, .int (nI N), .int (-1)] h = some (.int 0, h') ∧ sm [61] h h' ∧ lay h' ∧ ∀ j, j < N → gI h' 61 j = -1 := by
  rw [D_J7_fill_fda19 (d + 1), ck_pos (by rw [k_61 L]; decide), D_J7_rangeCheck_23922 d, n_61 L, if_pos (show (0 : Int32) ≤ nI N from nI_le (a := 0) (Nat.zero_le N) (by omega)), if_neg (by decide), if_pos (nI_le (by omega) (by omega)), cV_some]
  obtain ⟨h', ⟨s', L', g'⟩, e⟩ := loop_rel (n := N) (σ := MH) (I := fun i k => sm [61] h k ∧ lay k ∧ ∀ j, j < i → gI k 61 j = -1) (G := fun i k => mX (mE mtab (d + 1)) KJ7_fill_fda19 7 [some (.ref 61), some (.int 0), some (.int (nI N)), some (.int (-1)), some (.int (nI i))] [] k) (s := h) (fun i k hi ⟨sk, Lk, gk⟩ => by
    refine ⟨sI k 61 i (-1), ⟨sm_trans sk (sm_sI (by decide)), layI Lk (by decide), fun j hj => ?_⟩, ?_⟩
    · rw [gI_sIs]
      by_cases c : j = i
      · subst c; rw [up_s]
      · rw [up_o _ _ c]; exact gk j (by omega)
    · show mX _ _ _ _ _ _ = mX _ _ _ _ _ _
      rw [D_J7_fill_fda19_7 (d + 1) k, if_pos (nI_lt hi (by omega)), ck_pos ⟨k_61 Lk, by rw [n_61 Lk]; exact ib_nI (by omega) (by omega)⟩, lt_def, ix_nI (by omega), nI_1]) ⟨sm_refl _ _, L, fun j hj => by omega⟩
  refine ⟨h', ?_, s', L', g'⟩
  refine (show mX (mE mtab (d + 1)) KJ7_fill_fda19 7 [some (.ref 61), some (.int 0), some (.int (nI N)), some (.int (-1)), some (.int 0)] [] h = _ from e).trans ?_
  rw [D_J7_fill_fda19_7 (d + 1) h', if_neg (nI_nlt (Nat.le_refl _) (by omega))]
theorem if_rt {α : Type} (k : Nat) (f : Int32 → α) : (if nI (k % 2) = 1 then f 1 else f 0) = f (bz (rtB k)) := by
  unfold rtB
  by_cases c : k % 2 = 1
  · rw [c, if_pos (show nI 1 = 1 from rfl), decide_eq_true rfl]; rfl
  · have : k % 2 = 0 := by omega
    rw [this, if_neg (by decide), decide_eq_false (by decide)]; rfl
theorem dgt {x p : Nat} (hx : x < 6561) : x / 9 ^ p < 2 ^ 31 ∧ x / 9 ^ p % 9 ≤ 8 := by
  have := Nat.div_le_self x (9 ^ p)
  omega
theorem dgt_le {x p : Nat} (h : ¬ x / 9 ^ p % 9 = 0) : 9 ^ p ≤ x := by
  by_cases c : 9 ^ p ≤ x
  · exact c
  · rw [Nat.div_eq_of_lt (by omega)] at h; omega
theorem c_shifted {h : MH} (L : lay h) (d : Nat) {n x p : Nat} (hn : n ≤ 4) (hx : x < 6561) (hp : p < 4) (r : Bool) : F_X5_shifted (d + 1) (nI n) (nI x) (nI p) (bz r) h = some (.int (onI (gsh n x p r)), h) := by
  have p9 := pow9 p (by omega)
  have dx := dgt (p := p) hx
  rw [S_X5_shifted L d]
  unfold gsh
  by_cases c : p < n
  · rw [if_pos (nI_lt c (by omega)), ck_pos (ib_nI (by omega) (by omega)), ix_nI (by omega), L.2.2.2.2.1, mpw_9 p (by omega), ck_pos (nI_ne0 p9.1 (by omega)), lt_def, pk_div (by omega) p9.1 (by omega), nIr dx.1 (by omega) (by omega), if_pos c]
    cases r with
    | false =>
      rw [if_pos (show bz false = 0 from rfl), S_X5_shifted_19 L d]
      show _ = some (Value.int (onI (if x / 9 ^ p % 9 = 0 then none else some (x - 9 ^ p))), h)
      by_cases q : x / 9 ^ p % 9 = 0
      · rw [q, if_pos (show nI 0 = 0 from rfl), if_pos rfl]; rfl
      · rw [if_neg (fun w => q ((nIe (b := 0) (by omega) (by decide)).mp w)), if_neg q, if_pos (show bz false = 0 from rfl), ck_pos (ib_nI (by omega) (by omega)), ix_nI (by omega), L.2.2.2.2.1, mpw_9 p (by omega), pk_sub (dgt_le q)]
        rfl
    | true =>
      rw [if_neg (show ¬ bz true = 0 by decide), S_X5_shifted_19 L d]
      show _ = some (Value.int (onI (if x / 9 ^ p % 9 = 8 then none else some (x + 9 ^ p))), h)
      by_cases q : x / 9 ^ p % 9 = 8
      · rw [q, if_pos (show nI 8 = 8 from rfl), if_pos rfl]; rfl
      · rw [if_neg (fun w => q ((nIe (b := 8) (by omega) (by decide)).mp w)), if_neg q, if_neg (show ¬ bz true = 0 by decide), ck_pos (ib_nI (by omega) (by omega)), ix_nI (by omega), L.2.2.2.2.1, mpw_9 p (by omega), nI_add]
        rfl
  · rw [if_neg (nI_nlt (by omega) (by omega)), if_neg c]; rfl
theorem c_leads {h : MH} (L : lay h) (d : Nat) {n x g : Nat} (hn : n ≤ 4) (hx : x < 9 ^ n) (hg : g < 64) : F_X5_leadsTo (d + 2) (nI n) (nI x) (nI g) h = some (.int (onI (ldT n x g)), h) := by
  have n9 := pow9 n (by omega)
  rw [S_X5_leadsTo L (d + 1)]
  unfold ldT
  by_cases c : g < 8
  · rw [if_pos ((nIl (by omega) (by omega)).mpr c), nIr (by omega) (by omega) (by omega), nId (by omega) (by omega) (by omega), if_rt g (fun s => G_X5_leadsTo_16 (d + 1) (nI n) (nI x) (nI g) s (nI (g / 2)) (nI x) (nI n) h), S_X5_leadsTo_16 L, c_shifted L d hn (by omega) (by omega), cI_some, if_pos c]
  · rw [if_neg (fun w => c ((nIl (by omega) (by omega)).mp w)), if_neg c, lt_def, lt_def]
    by_cases c2 : g < 10
    · rw [if_pos (by
        have : g = 8 ∨ g = 9 := by omega
        rcases this with rfl | rfl <;> decide), if_pos c2]
      rfl
    · rw [if_neg c2, show nI g - 10 = nI (g - 10) from pk_sub (a := g) (b := 10) (by omega)]
      generalize hb : g - 10 = b
      rw [if_neg (nIz (by omega)), nId (a := b) (d := 16) (by omega) (by decide) (by decide), nId (a := b) (d := 2) (by omega) (by decide) (by decide), nId (a := b) (d := 8) (by omega) (by decide) (by decide), nIr (a := b / 2) (d := 4) (by omega) (by decide) (by decide), nIr (a := b / 8) (d := 2) (by omega) (by decide) (by decide)]
      by_cases c3 : b / 16 < b / 2 % 4
      · rw [if_pos (nI_lt c3 (by omega)), if_pos c3, if_rt (b / 8) (fun s => G_X5_leadsTo_52 (d + 1) (nI n) (nI x) (nI g) (nI b) (nI (b / 16)) (nI (b / 2 % 4)) s (nI (b / 16)) (nI x) (nI n) h), S_X5_leadsTo_52 L, c_shifted L d hn (by omega) (by omega), cI_some]
        cases e : gsh n x (b / 16) (rtB (b / 8)) with
        | none => rw [if_pos (show onI none = -1 from rfl)]; rfl
        | some y =>
          have hy := gsh_lt hn hx e
          rw [if_neg (show ¬ onI (some y) = -1 from nI_m1 (by omega)), nIr (by omega) (by omega) (by omega), if_rt b (fun s => G_X5_leadsTo_70 (d + 1) (nI n) (nI x) (nI g) (nI b) (nI (b / 16)) (nI (b / 2 % 4)) (onI (some y)) s (nI (b / 2 % 4)) (onI (some y)) (nI n) h), S_X5_leadsTo_70 L, show onI (some y) = nI y from rfl, c_shifted L d hn (by omega) (by omega), cI_some]
          rfl
      · rw [if_neg (nI_nlt (show b / 2 % 4 ≤ b / 16 by omega) (show b / 16 < 2 ^ 31 by omega)), if_neg c3]; rfl
/-! the reference's goings -/
def sgn (r : Bool) : Int32 := cond r 1 (-1)
theorem m_stp {h : MH} (L : lay h) (d : Nat) (r : Bool) : F_X11_step (d + 1) (bz r) h = some (.int (sgn r), h) := by
  rw [S_X11_step L d]
  cases r <;> rfl
def dlt (n x p : Nat) (r : Bool) : Int32 := match gsh n x p r with
  | none => 0
  | some _ => sgn r * nI (9 ^ p)
theorem m_stepOf {h : MH} (L : lay h) (d : Nat) {n : Nat} {W P SN : Nat → Nat} (m : mdl h n W P SN) {x p : Nat} (hx : x < 6561) (hp : p < 4) (r : Bool) : F_X11_stepOf (d + 3) (nI x) (nI p) (bz r) h = some (.int (dlt n x p r), h) := by
  have hn := m.1
  have p9 := pow9 p (by omega)
  have dx := dgt (p := p) hx
  rw [S_X11_stepOf L (d + 2), m_nines L (d + 1) (by omega), cI_some, ck_pos (nI_ne0 p9.1 (by omega)), m_stp L (d + 1), cI_some, lt_def, m_isPerson L d m, cI_some, pk_div (by omega) p9.1 (by omega), nIr dx.1 (by omega) (by omega), m_isPlace L d, cI_some, m_stp L (d + 1), cI_some, m_nines L (d + 1) (by omega), cI_some]
  unfold dlt gsh
  by_cases c : p < n
  · rw [bI_pos (ib_nI c (by omega)), if_neg (by decide), if_pos c]
    cases r with
    | false =>
      show (if bI (ib (nI (x / 9 ^ p % 9) + -1) 9) = 0 then _ else _) = some (Value.int (match (if x / 9 ^ p % 9 = 0 then none else some (x - 9 ^ p)) with
        | none => 0
        | some _ => sgn false * nI (9 ^ p)), h)
      by_cases q : x / 9 ^ p % 9 = 0
      · rw [q, bI_neg (show ¬ ib (nI 0 + -1) 9 from fun w => absurd ((ib_iff (n := 9) (by decide)).mpr w).1 (by decide)), if_pos rfl, if_pos rfl]
      · have : nI (x / 9 ^ p % 9) + -1 = nI (x / 9 ^ p % 9 - 1) := by
          rw [← pk_sub (by omega), Int32.sub_eq_add_neg]
          rfl
        rw [this, bI_pos (ib_nI (by omega) (by omega)), if_neg (by decide), if_neg q]
    | true =>
      show (if bI (ib (nI (x / 9 ^ p % 9) + 1) 9) = 0 then _ else _) = some (Value.int (match (if x / 9 ^ p % 9 = 8 then none else some (x + 9 ^ p)) with
        | none => 0
        | some _ => sgn true * nI (9 ^ p)), h)
      rw [nI_1]
      by_cases q : x / 9 ^ p % 9 = 8
      · rw [q, bI_neg (by rw [ib_nIi (by omega)]; omega), if_pos rfl, if_pos rfl]
      · rw [bI_pos (ib_nI (by omega) (by omega)), if_neg (by decide), if_neg q]
  · rw [bI_neg (by rw [ib_nIi (by omega)]; exact c), if_pos rfl, if_neg c]
theorem dlt_some {n x p y : Nat} {r : Bool} (hx : x < 6561) (hp : p < 4) (e : gsh n x p r = some y) : ¬ dlt n x p r = 0 ∧ nI x + dlt n x p r = nI y := by
  have p9 := pow9 p (by omega)
  unfold dlt
  rw [e]
  unfold gsh at e
  by_cases c : p < n
  · rw [if_pos c] at e
    by_cases q : x / 9 ^ p % 9 = cond r 8 0
    · rw [if_pos q] at e; cases e
    · rw [if_neg q] at e
      cases e
      cases r with
      | false =>
        have q' : ¬ x / 9 ^ p % 9 = 0 := q
        show ¬ -1 * nI (9 ^ p) = 0 ∧ nI x + -1 * nI (9 ^ p) = nI (x - 9 ^ p)
        rw [nI_zI, nI_zI, nI_zI, zI_m1, zI_mul, zI_add, show (0 : Int32) = zI 0 by decide +kernel, zI_inj (by omega) (by omega)]
        have := dgt_le q'
        refine ⟨by omega, ?_⟩
        congr 1
        omega
      | true =>
        show ¬ 1 * nI (9 ^ p) = 0 ∧ nI x + 1 * nI (9 ^ p) = nI (x + 9 ^ p)
        rw [Int32.one_mul, nI_add]
        exact ⟨nI_ne0 p9.1 (by omega), rfl⟩
  · rw [if_neg c] at e; cases e
def GO (n : Nat) (gd : Nat → Bool) (x g : Nat) : Option Nat := (ldT n x g).bind (fun y => cond (gd y) (some y) none)
theorem m_gone {h : MH} (L : lay h) (d : Nat) {n : Nat} {W P SN : Nat → Nat} (m : mdl h n W P SN) {gd : Nat → Bool} (a79 : ∀ k, k < 9 ^ n → gI h 79 k = bz (gd k)) {x g : Nat} (hx : x < 9 ^ n) (hg : g < 58) : F_X11_gone (d + 4) (nI x) (nI g) h = some (.int (onI (GO n gd x g)), h) := by
  have hn := m.1
  have n9 := pow9 n (by omega)
  have lk : ∀ y, y < 9 ^ n → (ck (ib (nI y) 6561) (if gI h 79 (ix (nI y)) = 0 then some (Value.int (-1), h) else some (Value.int (nI y), h))) = some (.int (onI (cond (gd y) (some y) none)), h) := by
    intro y hy
    rw [ck_pos (ib_nI (by omega) (by omega)), ix_nI (by omega), a79 y hy]
    cases gd y with
    | false => rw [if_pos (show bz false = 0 from rfl)]; rfl
    | true => rw [if_neg (show ¬ bz true = 0 by decide)]; rfl
  rw [S_X11_gone L (d + 3)]
  unfold GO ldT
  by_cases c2 : g < 10
  · rw [if_pos ((nIl (by omega) (by omega)).mpr c2)]
    by_cases c : g < 8
    · rw [if_pos ((nIl (by omega) (by omega)).mpr c), nIr (by omega) (by omega) (by omega), nId (by omega) (by omega) (by omega), if_rt g (fun s => G_X11_gone_19 (d + 3) (nI x) (nI g) s (nI (g / 2)) (nI x) h), S_X11_gone_19 L, m_stepOf L d m (by omega) (by omega), cI_some, S_X11_gone_22 L, if_pos c]
      cases e : gsh n x (g / 2) (rtB g) with
      | none =>
        rw [if_pos (by unfold dlt; rw [e])]
        rfl
      | some y =>
        obtain ⟨h1, h2⟩ := dlt_some (by omega) (by omega) e
        rw [if_neg h1, h2, lk y (gsh_lt hn hx e)]
        rfl
    · rw [if_neg (fun w => c ((nIl (by omega) (by omega)).mp w)), S_X11_gone_22 L, if_pos rfl, if_neg c, if_pos c2]
      rfl
  · rw [if_neg (fun w => c2 ((nIl (by omega) (by omega)).mp w)), if_neg c2, if_neg (by omega), show nI g - 10 = nI (g - 10) from pk_sub (a := g) (b := 10) (by omega)]
    generalize hb : g - 10 = b
    rw [lt_def, lt_def, nIr (a := b) (d := 8) (by omega) (by decide) (by decide), nId (a := b) (d := 16) (by omega) (by decide) (by decide), nId (a := b) (d := 8) (by omega) (by decide) (by decide), nIr (a := b / 8) (d := 2) (by omega) (by decide) (by decide), nId (a := b % 8) (d := 2) (by omega) (by decide) (by decide), show b % 8 / 2 = b / 2 % 4 by omega, if_rt (b / 8) (fun s => G_X11_gone_65 (d + 3) (nI x) (nI g) (nI b) (nI (b / 16)) (nI (b / 2 % 4)) s (nI (b / 16)) (nI x) h), S_X11_gone_65 L, m_stepOf L d m (by omega) (by omega), cI_some, nIr (by omega) (by omega) (by omega), if_rt b (fun s => G_X11_gone_78 (d + 3) (nI x) (nI g) (nI b) (nI (b / 16)) (nI (b / 2 % 4)) (dlt n x (b / 16) (rtB (b / 8))) s (nI (b / 2 % 4)) (nI x) h), S_X11_gone_78 L, m_stepOf L d m (by omega) (by omega), cI_some]
    by_cases c3 : b / 16 < b / 2 % 4
    · rw [if_pos (nI_lt c3 (by omega)), if_pos c3]
      cases e : gsh n x (b / 16) (rtB (b / 8)) with
      | none =>
        rw [if_pos (by unfold dlt; rw [e])]
        rfl
      | some y =>
        obtain ⟨h1, h2⟩ := dlt_some (by omega) (by omega) e
        have hy := gsh_lt hn hx e
        have o := gsh_oth hn e (b / 2 % 4) (by omega) (by omega)
        rw [if_neg h1, h2]
        show _ = some (Value.int (onI ((gsh n y (b / 2 % 4) (rtB b)).bind _)), h)
        have ed : dlt n x (b / 2 % 4) (rtB b) = dlt n y (b / 2 % 4) (rtB b) := by
          unfold dlt gsh
          rw [o]
          by_cases q1 : b / 2 % 4 < n
          · rw [if_pos q1, if_pos q1]
            by_cases q2 : x / 9 ^ (b / 2 % 4) % 9 = cond (rtB b) 8 0
            · rw [if_pos q2, if_pos q2]
            · rw [if_neg q2, if_neg q2]
          · rw [if_neg q1, if_neg q1]
        rw [ed]
        cases e2 : gsh n y (b / 2 % 4) (rtB b) with
        | none =>
          rw [if_pos (by unfold dlt; rw [e2])]
          rfl
        | some z =>
          obtain ⟨h3, h4⟩ := dlt_some (by omega) (by omega) e2
          rw [if_neg h3, h4, lk z (gsh_lt hn hy e2)]
          rfl
    · rw [if_neg (nI_nlt (show b / 2 % 4 ≤ b / 16 by omega) (show b / 16 < 2 ^ 31 by omega)), if_neg c3]; rfl
/-! all where they want to be -/
def hmR (gl : Nat → Int32) (k : Nat) : Nat → Bool
  | 0 => true
  | i + 1 => hmR gl k i && decide (gl i = -1 ∨ gl i = nI (k / 9 ^ i % 9))
theorem hmR_no {gl : Nat → Int32} {k i : Nat} (q : ¬ (gl i = -1 ∨ gl i = nI (k / 9 ^ i % 9))) : ∀ n, i < n → hmR gl k n = false := by
  intro n
  induction n with
  | zero => intro h; omega
  | succ n ih =>
    intro h
    rw [hmR]
    by_cases c : i = n
    · subst c; rw [decide_eq_false q, Bool.and_false]
    · rw [ih (by omega), Bool.false_and]
theorem bz_and (a b : Bool) : bz a &&& bz b = bz (a && b) := by cases a <;> cases b <;> decide
theorem m_there {h : MH} (L : lay h) (d : Nat) {n : Nat} (hn : n ≤ 4) (e0 : gI h 68 0 = nI n) {gl : Nat → Int32} (eg : ∀ p, p < n → gI h 68 (30 + p) = gl p) {k : Nat} (hk : k < 6561) : F_X11_areThere (d + 1) (nI k) h = some (.int (bz (hmR gl k n)), h) := by
  rw [S_X11_areThere L d]
  have dk : ∀ i, k / 9 ^ i ≤ k := fun i => Nat.div_le_self _ _
  have e := loop_all (n := n) (F := fun i => G_X11_areThere_6 d (nI k) (nI (k / 9 ^ i)) (bz (hmR gl k i)) (nI i) h) (fun i hi => by
    show G_X11_areThere_6 _ _ _ _ _ _ = G_X11_areThere_6 _ _ _ _ _ _
    have := dk i
    rw [S_X11_areThere_6 L d, e0, if_pos (nI_lt hi (by omega)), nIa, ck_pos (ib_nI (by omega) (by omega)), ck_pos (ib_nI (by omega) (by omega)), ix_nI (by omega), eg i hi, S_X11_areThere_31 L d, S_X11_areThere_34 L d, S_X11_areThere_34 L d, nIr (by omega) (by omega) (by omega), nId (by omega) (by omega) (by omega), Nat.div_div_eq_div_mul, ← Nat.pow_succ, nI_1, hmR, ← bz_and]
    by_cases q1 : gl i = -1
    · rw [if_pos q1, decide_eq_true (Or.inl q1)]; rfl
    · rw [if_neg q1]
      by_cases q2 : gl i = nI (k / 9 ^ i % 9)
      · rw [if_pos q2, decide_eq_true (Or.inr q2)]; rfl
      · rw [if_neg q2, decide_eq_false (fun w => w.elim q1 q2)]; rfl)
  have e' : G_X11_areThere_6 d (nI k) (nI (k / 9 ^ 0)) 1 0 h = _ := e
  rw [Nat.pow_zero, Nat.div_one] at e'
  rw [e', S_X11_areThere_6 L d, e0, if_neg (nI_nlt (Nat.le_refl _) (by omega))]
  cases hmR gl k n with
  | false => rw [ck_pos (show mrt 1 (bz false) from mrt0)]
  | true => rw [ck_pos (show mrt 1 (bz true) from mrt1)]
theorem c_home {h : MH} (L : lay h) (d : Nat) {n : Nat} {W : Nat → Nat} {s : TS} (t : CT h 43 n W s) {gl : Nat → Int32} (eg : ∀ p, p < n → gI h 46 p = gl p) {k : Nat} (es : ∀ p, p < n → s.1 p = k / 9 ^ p % 9) : F_X9_allHome (d + 1) 43 h = some (.int (bz (hmR gl k n)), h) := by
  have hn := t.1
  have e0 : gI h 43 0 = nI n := t.2.1
  rw [S_X9_allHome L d 43 tAt43]
  have key : ∀ m i, i + m = n → hmR gl k i = true → G_X9_allHome_2 d 43 (nI i) h = some (.int (bz (hmR gl k n)), h) := by
    intro m
    induction m with
    | zero =>
      intro i hi hr
      rw [S_X9_allHome_2 L d 43 tAt43, e0, if_neg (nI_nlt (by omega) (by omega)), ← show i = n by omega, hr]
      rfl
    | succ m ih =>
      intro i hi hr
      have hP : gI h 45 i = nI (s.1 i) := (t.2.2.2.1 i (by omega)).1
      rw [S_X9_allHome_2 L d 43 tAt43, e0, if_pos (nI_lt (by omega) (by omega)), ck_pos (ib_nI (by omega) (by omega)), ix_nI (by omega), ck_pos (ib_nI (by omega) (by omega)), ck_pos (ib_nI (by omega) (by omega)), S_X9_allHome_23 L d 43 tAt43, nI_1]
      show (if gI h 46 i = -1 then _ else (if gI h 46 i = gI h 45 i then _ else _)) = _
      rw [hP, eg i (by omega), es i (by omega)]
      by_cases q1 : gl i = -1
      · rw [if_pos q1]
        exact ih (i + 1) (by omega) (by rw [hmR, hr, decide_eq_true (Or.inl q1)]; rfl)
      · rw [if_neg q1]
        by_cases q2 : gl i = nI (k / 9 ^ i % 9)
        · rw [if_pos q2]
          exact ih (i + 1) (by omega) (by rw [hmR, hr, decide_eq_true (Or.inr q2)]; rfl)
        · rw [if_neg q2, hmR_no (fun w => w.elim q1 q2) n (by omega)]
          rfl
  exact key n 0 (by omega) rfl
