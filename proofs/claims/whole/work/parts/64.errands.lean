--deps:19.lay 21.facts 22.00.names 22.01.eq 22.02.eq 22.03.eq 22.04.eq 22.05.eq 22.06.eq 22.07.eq 22.08.eq 22.09.eq 22.10.eq 22.11.eq 22.12.eq 22.13.eq 22.14.eq 22.15.eq 22.16.eq 22.17.eq 22.18.eq 22.19.eq 22.20.eq 22.21.eq 22.22.eq 22.23.eq 23.num 24.town 25.evc 26.evm 27.law 28.says 29.inv 30.api1 31.copy 32.api2 33.api3 34.api4 35.api5 36.deeds 37.hours 38.mdeeds 39.mhours 40.hist 41.full 42.acts 43.acts2 44.played 45.undo 46.trial 47.sets 48.sets2 49.image 50.ask 51.swap 52.level 60.bfs 61.seek 62.explore 63.where
/-! ERRANDS -/
set_option linter.unusedSectionVars false
section fars
variable {n : Nat} {W P : Nat → Nat} {R : (Nat → Nat) × Nat × Nat × Nat × (Nat → Int32)} {dt ds : Option Den} {gd : Nat → Bool} {k : MH} {gl : Nat → Int32}
/-- what the far numbers are laid from -/
def SRC (k : MH) (n : Nat) (gd : Nat → Bool) (gl : Nat → Int32) (i : Nat) (q : Nat → Nat) (len : Nat) (z : MH) : Prop := (lay z ∧ sm [77, 78] k z) ∧ len ≤ i ∧ (∀ j, j < len → q j < i ∧ gd (q j) = true ∧ hmR gl (q j) n = true ∧ gI z 78 j = nI (q j) ∧ gI z 77 (q j) = 0) ∧ (∀ j j', j < j' → j' < len → q j < q j') ∧ (∀ y, y < i → gd y = true → hmR gl y n = true → ∃ j, j < len ∧ q j = y) ∧ ∀ y, y < i → (∀ j, j < len → ¬ q j = y) → gI z 77 y = -1
theorem SRC_no {i len : Nat} {q : Nat → Nat} {z : MH} (hn : i < 6561) (c : SRC k n gd gl i q len z) (no : ¬ (gd i = true ∧ hmR gl i n = true)) : SRC k n gd gl (i + 1) q len (sI z 77 i (-1)) := by
  obtain ⟨⟨L, s⟩, c1, c2, c3, c4, c5⟩ := c
  refine ⟨⟨layI L (by decide), sm_trans s (sm_sI (by decide))⟩, by omega, fun j hj => ?_, c3, fun y hy h1 h2 => ?_, fun y hy ny => ?_⟩
  · obtain ⟨h1, h2, h3, h4, h5⟩ := c2 j hj
    rw [gI_sIs, up_o _ _ (show ¬ q j = i by omega), gI_sIo _ 77 _ 78 _ (by decide)]
    exact ⟨by omega, h2, h3, h4, h5⟩
  · by_cases e : y = i
    · subst e; exact absurd ⟨h1, h2⟩ no
    · exact c4 y (by omega) h1 h2
  · rw [gI_sIs]
    by_cases e : y = i
    · subst e; rw [up_s]
    · rw [up_o _ _ e]; exact c5 y (by omega) ny
theorem SRC_yes {i len : Nat} {q : Nat → Nat} {z : MH} (c : SRC k n gd gl i q len z) (h1 : gd i = true) (h2 : hmR gl i n = true) : SRC k n gd gl (i + 1) (va_up q len i) (len + 1) (sI (sI z 77 i 0) 78 len (nI i)) := by
  obtain ⟨⟨L, s⟩, c1, c2, c3, c4, c5⟩ := c
  refine ⟨⟨layI (layI L (by decide)) (by decide), sm_trans s (sm_trans (sm_sI (by decide)) (sm_sI (by decide)))⟩, by omega, fun j hj => ?_, fun j j' hjj hj => ?_, fun y hy g1 g2 => ?_, fun y hy ny => ?_⟩
  · rw [gI_sIs, gI_sIo _ 78 _ 77 _ (by decide), gI_sIs, gI_sIo _ 77 _ 78 _ (by decide)]
    by_cases e : j = len
    · subst e
      rw [up_s, up_s, up_s]
      exact ⟨by omega, h1, h2, rfl, rfl⟩
    · obtain ⟨k1, k2, k3, k4, k5⟩ := c2 j (by omega)
      rw [up_o q _ e, up_o _ _ e, up_o _ _ (show ¬ q j = i by omega)]
      exact ⟨by omega, k2, k3, k4, k5⟩
  · rw [up_o q _ (show ¬ j = len by omega)]
    by_cases e : j' = len
    · subst e; rw [up_s]; exact (c2 j hjj).1
    · rw [up_o _ _ e]; exact c3 j j' hjj (by omega)
  · by_cases e : y = i
    · subst e; exact ⟨len, by omega, up_s _ _ _⟩
    · obtain ⟨j, hj, ej⟩ := c4 y (by omega) g1 g2
      exact ⟨j, by omega, by rw [up_o q _ (show ¬ j = len by omega)]; exact ej⟩
  · rw [gI_sIo _ 78 _ 77 _ (by decide), gI_sIs]
    have e : ¬ y = i := fun e => ny len (by omega) (by rw [up_s, e])
    rw [up_o _ _ e]
    exact c5 y (by omega) (fun j hj ej => ny j (by omega) (by rw [up_o q _ (show ¬ j = len by omega)]; exact ej))
theorem m_fars (L : lay k) (d : Nat) (mk : MTh true k n W (P, R)) (rl : rlM k (gI k 68 3) dt ds) (eg : ∀ p, p < n → gI k 68 (30 + p) = gl p) (hgd : ∀ y, gd y = stl n W (dg n y P) R.1 R.2.1 dt) {a : Int32} {w : Bool} (ew : w = !(decide (a = 0))) : ∃ F k', F_X11_layFars (d + 11) a k = some (.int 0, k') ∧ FAR (9 ^ n) (EG n w gd) (fun y => hmR gl y n) gd F ∧ (∀ y, y < 9 ^ n → gI k' 77 y = onI (F y)) ∧ (∀ y r, F y = some r → r < 6561) ∧ (∀ y, y < 9 ^ n → gI k' 79 y = bz (gd y)) ∧ lay k' ∧ sm (67 :: 68 :: SCR) k k' ∧ gI k' 68 = gI k 68 ∧ gI k' 67 = gI k 67 := by
  have hn := mk.1
  have n9 := pow9 n (by omega)
  obtain ⟨k1, e1, L1, s1, g68, g67, a79⟩ := m_good L d mk rl hgd
  have mk1 : MTh true k1 n W (P, R) := by
    unfold MTh
    rw [g68]
    exact mk
  obtain ⟨⟨q, len, z⟩, c, e⟩ := loop_rel (n := 9 ^ n) (σ := (Nat → Nat) × Nat × MH) (I := fun i st => SRC k1 n gd gl i st.1 st.2.1 st.2.2) (G := fun i st => G_X11_layFars_6 (d + 10) a (nI st.2.1) (nI i) st.2.2) (s := (fun _ => 0, 0, k1)) (fun i ⟨q, len, z⟩ hi c => by
    have c' : SRC k1 n gd gl i q len z := c
    obtain ⟨⟨Lz, sz⟩, c1, -⟩ := id c'
    have mz := MT_z sz mk1
    have z79 : gI z 79 i = bz (gd i) := by rw [sm_gI sz (a := 79) (by decide) (by decide)]; exact a79 i hi
    have th := m_there Lz (d + 9) hn mz.2.1 (gl := gl) (fun p hp => by rw [sm_gI sz (a := 68) (by decide) (by decide), g68]; exact eg p hp) (k := i) (by omega)
    have st : ∀ v, G_X11_layFars_28 (d + 10) a (nI len) (nI i) v (nI i) z = (if v = -1 then G_X11_layFars_6 (d + 10) a (nI len) (nI (i + 1)) (sI z 77 i v) else G_X11_layFars_6 (d + 10) a (nI (len + 1)) (nI (i + 1)) (sI (sI z 77 i v) 78 len (nI i))) := by
      intro v
      have La : lay (sI z 77 i v) := layI Lz (by decide)
      have Lb : lay (sI (sI z 77 i v) 78 len (nI i)) := layI La (by decide)
      rw [S_X11_layFars_28 Lz (d + 10), ck_pos (ib_nI (by omega) (by omega)), lt_def, ck_pos (ib_nI (by omega) (by omega)), ix_nI (by omega), gI_sIs, up_s, S_X11_layFars_42 La (d + 10), ck_pos (ib_nI (by omega) (by omega)), lt_def, ix_nI (by omega), S_X11_layFars_42 Lb (d + 10), nI_1, nI_1]
    have fin : ∀ X, X = G_X11_layFars_6 (d + 10) a (nI len) (nI i) z → ((¬ (gd i = true ∧ hmR gl i n = true) ∧ X = G_X11_layFars_6 (d + 10) a (nI len) (nI (i + 1)) (sI z 77 i (-1))) ∨ ((gd i = true ∧ hmR gl i n = true) ∧ X = G_X11_layFars_6 (d + 10) a (nI (len + 1)) (nI (i + 1)) (sI (sI z 77 i 0) 78 len (nI i)))) := by
      intro X eX
      rw [eX, S_X11_layFars_6 Lz (d + 10), mz.2.1, m_nines Lz (d + 9) hn, cI_some, if_pos (nI_lt hi (by omega)), ck_pos (ib_nI (by omega) (by omega)), ix_nI (by omega), z79, th, cI_some, S_X11_layFars_27 Lz (d + 10), st (-1), st 0, if_pos rfl, if_neg (show ¬ (0 : Int32) = -1 by decide)]
      cases h1 : gd i with
      | false =>
        left
        rw [if_pos (show bz false = 0 from rfl)]
        exact ⟨fun w => (by cases w.1), rfl⟩
      | true =>
        rw [if_neg (show ¬ bz true = 0 by decide)]
        cases h2 : hmR gl i n with
        | false =>
          left
          rw [if_pos (show bz false = 0 from rfl)]
          exact ⟨fun w => (by cases w.2), rfl⟩
        | true =>
          right
          rw [if_neg (show ¬ bz true = 0 by decide)]
          exact ⟨⟨rfl, rfl⟩, rfl⟩
    rcases fin _ rfl with ⟨h1, h2⟩ | ⟨⟨h1, h1'⟩, h2⟩
    · exact ⟨(q, len, sI z 77 i (-1)), SRC_no (by omega) c' h1, h2⟩
    · exact ⟨(va_up q len i, len + 1, sI (sI z 77 i 0) 78 len (nI i)), SRC_yes c' h1 h1', h2⟩) (show SRC k1 n gd gl 0 (fun _ => 0) 0 k1 from ⟨⟨L1, sm_refl _ _⟩, Nat.le_refl _, fun j hj => by omega, fun j j' _ hj => by omega, fun y hy => by omega, fun y hy => by omega⟩)
  have c' : SRC k1 n gd gl (9 ^ n) q len z := c
  obtain ⟨⟨Lz, sz⟩, c1, c2, c3, c4, c5⟩ := id c'
  have mz := MT_z sz mk1
  have c0 : MSI k1 n q (fun _ => 0) len z := ⟨⟨Lz, sz⟩, fun i hi => ⟨(c2 i hi).2.2.2.1, (c2 i hi).2.2.2.2⟩, c5⟩
  have b0 : BI len (9 ^ n) (EG n w gd) q (fun _ => 0) (fun _ => 0) len (64 * 0) := BI_0 (fun i hi => (c2 i hi).1) (fun i j h1 h2 => by have := c3 i j h1 h2; omega) (fun i hi => rfl)
  obtain ⟨q2, key2, lv2, len2, k', e4, b4, cc, l4, s4⟩ := m_spread4 (d + 5) (MQ_mdl mk1) a79 (l1 := nI len) (9 ^ n) 0 _ _ _ _ _ none none (by omega) (by omega) b0 c0
  have hl2 := BI_len b4
  refine ⟨farO q2 lv2 len2, k', ?_, FAR_of b4 (fun i hi => ?_) (fun y hy h1 h2 => ?_) (fun x g y e => (EG_gd e).1) (EG_sy hn) (fun x g y e => by have := (EG_gd e).2.1; omega), fun y hy => ?_, fun y r e => ?_, fun y hy => ?_, cc.1.1, sm_trans s1 (sm_mono cc.1.2 (by decide)), ?_, ?_⟩
  · rw [S_X11_layFars L (d + 10), e1, cV_some]
    refine (show G_X11_layFars_6 (d + 10) a 0 0 k1 = _ from e).trans ?_
    show G_X11_layFars_6 (d + 10) a (nI len) (nI (9 ^ n)) z = _
    rw [S_X11_layFars_6 Lz (d + 10), mz.2.1, m_nines Lz (d + 9) hn, cI_some, if_neg (nI_nlt (Nat.le_refl _) (by omega)), m_top Lz (d + 9) ew, cI_some, S_X11_spread Lz (d + 9)]
    rw [show G_X11_spread_4 (d + 9) (nI len) (nI (cond w 58 10)) (nI len) 0 none none z = _ from e4, cI_some]
    split <;> rfl
  · rw [s4 i hi]
    exact ⟨(c2 i hi).2.1, (c2 i hi).2.2.1⟩
  · obtain ⟨i, hi, ei⟩ := c4 y hy h1 h2
    exact ⟨i, hi, by rw [s4 i hi]; exact ei⟩
  · by_cases inq : ∃ i, i < len2 ∧ q2 i = y
    · obtain ⟨i, hi, ei⟩ := inq
      rw [← ei, (cc.2.1 i hi).2, farO_in b4.1.2.2.2 len2 (Nat.le_refl _) i hi]
      rfl
    · have nq : ∀ i, i < len2 → ¬ q2 i = y := fun i hi e => inq ⟨i, hi, e⟩
      rw [cc.2.2 y hy nq, farO_none len2 nq]
      rfl
  · obtain ⟨i, hi, -, li⟩ := farO_some _ e
    have := BI_lv b4 i hi
    omega
  · rw [sm_gI cc.1.2 (a := 79) (by decide) (by decide)]
    exact a79 y hy
  · rw [sm_gI cc.1.2 (a := 68) (by decide) (by decide), g68]
  · rw [sm_gI cc.1.2 (a := 67) (by decide) (by decide), g67]
/-- a going of x that comes there, and how far it then is -/
def hitE (E : Nat → Nat → Option Nat) (F : Nat → Option Nat) (x g r : Nat) : Prop := ∃ y, E x g = some y ∧ F y = some r
def nxE (o : Option (Nat × Nat)) : Int32 := match o with
  | none => -1
  | some b => nI b.1
def nxF (o : Option (Nat × Nat)) : Int32 := match o with
  | none => 1000000
  | some b => nI b.2
def NX (E : Nat → Nat → Option Nat) (F : Nat → Option Nat) (x g : Nat) (o : Option (Nat × Nat)) : Prop := (o = none ∧ ∀ g' r, g' < g → ¬ hitE E F x g' r) ∨ ∃ b r, o = some (b, r) ∧ b < g ∧ hitE E F x b r ∧ ∀ g' r', g' < g → hitE E F x g' r' → r ≤ r' ∧ (r' = r → b ≤ g')
theorem m_next (L : lay k) (d : Nat) {SN : Nat → Nat} (m : mdl k n W P SN) {a : Int32} {w : Bool} (ew : w = !(decide (a = 0))) {F : Nat → Option Nat} (a77 : ∀ y, y < 9 ^ n → gI k 77 y = onI (F y)) (fb : ∀ y r, F y = some r → r < 6561) (a79 : ∀ y, y < 9 ^ n → gI k 79 y = bz (gd y)) {x : Nat} (hx : x < 9 ^ n) : ∃ o, F_X11_nextGoing (d + 5) (nI x) a k = some (.int (nxE o), k) ∧ NX (EG n w gd) F x 58 o := by
  have hn := m.1
  have n9 := pow9 n (by omega)
  have cw : cond w 58 10 < 2 ^ 31 := by cases w <;> decide
  have cw' : cond w 58 10 ≤ 58 := by cases w <;> decide
  rw [S_X11_nextGoing L (d + 4)]
  obtain ⟨⟨o, o6⟩, c, e⟩ := loop_rel (n := cond w 58 10) (σ := Option (Nat × Nat) × Option Value) (I := fun g st => NX (EG n w gd) F x g st.1) (G := fun g st => G_X11_nextGoing_6 (d + 4) (nI x) a (nxE st.1) (nxF st.1) (nI g) st.2 k) (s := (none, none)) (fun g ⟨o, o6⟩ hg c => by
    have c' : NX (EG n w gd) F x g o := c
    have stay : (∀ r, ¬ hitE (EG n w gd) F x g r) → NX (EG n w gd) F x (g + 1) o := by
      intro no
      rcases c' with ⟨h1, h2⟩ | ⟨b, r, h1, h2, h3, h4⟩
      · refine Or.inl ⟨h1, fun g' r hg' hh => ?_⟩
        by_cases q : g' = g
        · subst q; exact no r hh
        · exact h2 g' r (by omega) hh
      · refine Or.inr ⟨b, r, h1, by omega, h3, fun g' r' hg' hh => ?_⟩
        by_cases q : g' = g
        · subst q; exact absurd hh (no r')
        · exact h4 g' r' (by omega) hh
    have go : ∀ l6, G_X11_nextGoing_38 (d + 4) (nI x) a (nxE o) (nxF o) (nI g) l6 k = G_X11_nextGoing_6 (d + 4) (nI x) a (nxE o) (nxF o) (nI (g + 1)) (some (.int l6)) k := fun l6 => by rw [S_X11_nextGoing_38 L (d + 4), nI_1]
    show ∃ st' : Option (Nat × Nat) × Option Value, NX (EG n w gd) F x (g + 1) st'.1 ∧ G_X11_nextGoing_6 (d + 4) (nI x) a (nxE o) (nxF o) (nI g) o6 k = G_X11_nextGoing_6 (d + 4) (nI x) a (nxE st'.1) (nxF st'.1) (nI (g + 1)) st'.2 k
    rw [S_X11_nextGoing_6 L (d + 4), m_top L (d + 3) ew, cI_some, if_pos (nI_lt hg cw), m_gone L d m a79 hx (by omega), cI_some, GO_EG hg]
    cases eE : EG n w gd x g with
    | none =>
      rw [if_pos (show onI none = -1 from rfl), go]
      exact ⟨(o, _), stay (fun r ⟨y, h1, _⟩ => by rw [eE] at h1; cases h1), rfl⟩
    | some y =>
      have hy := ldT_lt hn hx (EG_gd eE).2.2
      rw [if_neg (show ¬ onI (some y) = -1 from nI_m1 (by omega)), show onI (some y) = nI y from rfl, ck_pos (ib_nI (by omega) (by omega)), ck_pos (ib_nI (by omega) (by omega)), ck_pos (ib_nI (by omega) (by omega)), ix_nI (by omega), a77 y hy, lt_def]
      cases eF : F y with
      | none =>
        rw [if_pos (show onI none = -1 from rfl), go]
        exact ⟨(o, _), stay (fun r ⟨y', h1, h2⟩ => by rw [eE] at h1; cases h1; rw [eF] at h2; cases h2), rfl⟩
      | some r =>
        have hr := fb y r eF
        have hit : hitE (EG n w gd) F x g r := ⟨y, eE, eF⟩
        have hu : ∀ r', hitE (EG n w gd) F x g r' → r' = r := fun r' ⟨y', h1, h2⟩ => by rw [eE] at h1; cases h1; rw [eF] at h2; cases h2; rfl
        rw [if_neg (show ¬ onI (some r) = -1 from nI_m1 (by omega)), show onI (some r) = nI r from rfl, S_X11_nextGoing_38 L (d + 4) _ _ (nI g), nI_1, go]
        rcases c' with ⟨h1, h2⟩ | ⟨b, r0, h1, h2, h3, h4⟩
        · subst h1
          rw [show nxF none = 1000000 from rfl, if_pos ((nIl (by omega) (by decide)).mpr (by show r < 1000000; omega))]
          refine ⟨(some (g, r), _), Or.inr ⟨g, r, rfl, by omega, hit, fun g' r' hg' hh => ?_⟩, rfl⟩
          by_cases q : g' = g
          · subst q
            have := hu r' hh
            omega
          · exact absurd hh (h2 g' r' (by omega))
        · subst h1
          obtain ⟨y0, -, f0⟩ := id h3
          have hr0 := fb y0 r0 f0
          rw [show nxF (some (b, r0)) = nI r0 from rfl]
          by_cases lt : r < r0
          · rw [if_pos (nI_lt lt (by omega))]
            refine ⟨(some (g, r), _), Or.inr ⟨g, r, rfl, by omega, hit, fun g' r' hg' hh => ?_⟩, rfl⟩
            by_cases q : g' = g
            · subst q
              have := hu r' hh
              omega
            · have := h4 g' r' (by omega) hh
              omega
          · rw [if_neg (nI_nlt (by omega) (by omega))]
            refine ⟨(some (b, r0), _), Or.inr ⟨b, r0, rfl, by omega, h3, fun g' r' hg' hh => ?_⟩, rfl⟩
            by_cases q : g' = g
            · subst q
              have := hu r' hh
              omega
            · exact h4 g' r' (by omega) hh) (show NX (EG n w gd) F x 0 none from Or.inl ⟨rfl, fun g' r h => by omega⟩)
  refine ⟨o, ?_, ?_⟩
  · refine (show G_X11_nextGoing_6 (d + 4) (nI x) a (-1) 1000000 0 none k = _ from e).trans ?_
    show G_X11_nextGoing_6 (d + 4) (nI x) a (nxE o) (nxF o) (nI (cond w 58 10)) o6 k = _
    rw [S_X11_nextGoing_6 L (d + 4), m_top L (d + 3) ew, cI_some, if_neg (nI_nlt (Nat.le_refl _) cw)]
  · have c' : NX (EG n w gd) F x (cond w 58 10) o := c
    have far : ∀ g r, cond w 58 10 ≤ g → ¬ hitE (EG n w gd) F x g r := by
      rintro g r hg ⟨y, h1, -⟩
      unfold EG at h1
      rw [if_neg (by cases w <;> simp only [cond_true, cond_false] at * <;> omega)] at h1
      cases h1
    rcases c' with ⟨h1, h2⟩ | ⟨b, r, h1, h2, h3, h4⟩
    · refine Or.inl ⟨h1, fun g' r hg' hh => ?_⟩
      by_cases q : g' < cond w 58 10
      · exact h2 g' r q hh
      · exact far g' r (by omega) hh
    · refine Or.inr ⟨b, r, h1, by omega, h3, fun g' r' hg' hh => ?_⟩
      by_cases q : g' < cond w 58 10
      · exact h4 g' r' q hh
      · exact absurd hh (far g' r' (by omega))
end fars
