--deps:19.lay 21.facts 22.00.names 22.01.eq 22.02.eq 22.03.eq 22.04.eq 22.05.eq 22.06.eq 22.07.eq 22.08.eq 22.09.eq 22.10.eq 22.11.eq 22.12.eq 22.13.eq 22.14.eq 22.15.eq 22.16.eq 22.17.eq 22.18.eq 22.19.eq 22.20.eq 22.21.eq 22.22.eq 22.23.eq 23.num 24.town 25.evc 26.evm 27.law 28.says 29.inv 30.api1 31.copy 32.api2 33.api3 34.api4 35.api5 36.deeds 37.hours
/-! DEEDS of the reference -/
set_option linter.unusedSectionVars false
/-- the reference's row; w: the book is written -/
def MTa (w : Bool) (a : Nat → Int32) (n : Nat) (W : Nat → Nat) (s : TS) : Prop := n ≤ 4 ∧ a 0 = nI n ∧ (∀ p, p < n → a (22 + p) = nI (W p) ∧ W p ≤ 9) ∧ (∀ p, p < 4 → a (9 + p) = nI (s.1 p) ∧ s.1 p ≤ 8) ∧ (∀ c, c < 9 → a (13 + c) = nI (s.2.1 c) ∧ s.2.1 c ≤ 9) ∧ (a 6 = nI s.2.2.1 ∧ s.2.2.1 ≤ 9999) ∧ (a 7 = nI s.2.2.2.1 ∧ s.2.2.2.1 ≤ 30840) ∧ (w = true → a 8 = nI s.2.2.2.2.1 ∧ s.2.2.2.2.1 ≤ 30) ∧ (w = true → ∀ k, k < 30 → a (1468 + k) = s.2.2.2.2.2 k)
def MTh (w : Bool) (h : MH) (n : Nat) (W : Nat → Nat) (s : TS) : Prop := MTa w (gI h 68) n W s
def mZ : List Nat := [67, 68, 73, 75]
def fa (w : Bool) (a a' : Nat → Int32) : Prop := ∀ k, (k < 6 ∨ 22 ≤ k ∧ (k < 1468 ∨ w = false)) → a' k = a k
/-- what a deed of the reference leaves alone -/
def MF (w : Bool) (h h' : MH) : Prop := sm mZ h h' ∧ lay h' ∧ (∀ k, ¬ k = 24 → gI h' 67 k = gI h 67 k) ∧ fa w (gI h 68) (gI h' 68)
theorem MF_refl {w : Bool} {h : MH} (L : lay h) : MF w h h := ⟨sm_refl _ h, L, fun _ _ => rfl, fun _ _ => rfl⟩
theorem MF_trans {w : Bool} {h1 h2 h3 : MH} (a : MF w h1 h2) (b : MF w h2 h3) : MF w h1 h3 := ⟨sm_trans a.1 b.1, b.2.1, fun k hk => (b.2.2.1 k hk).trans (a.2.2.1 k hk), fun k hk => (b.2.2.2 k hk).trans (a.2.2.2 k hk)⟩
theorem MF_sI {w : Bool} {h : MH} {k : Nat} {v : Int32} (L : lay h) (hk : 6 ≤ k ∧ (k < 22 ∨ 1468 ≤ k ∧ w = true)) : MF w h (sI h 68 k v) := by
  refine ⟨sm_rI (Or.inl ⟨by decide, by decide⟩), layI L (by decide), fun j hj => ?_, fun j hj => ?_⟩
  · rw [gI_sIo _ _ _ _ _ (by decide)]
  · rw [gI_sIs, up_o]
    rintro rfl
    rcases hj with hj | ⟨hj, hj | hj⟩
    · omega
    · omega
    · rcases hk.2 with q | ⟨-, q⟩
      · omega
      · rw [hj] at q; cases q
theorem MF_73 {w : Bool} {h h' : MH} (s : sm [73, 75] h h') (L : lay h') : MF w h h' := by
  refine ⟨sm_mono s (by decide), L, fun j hj => ?_, fun j hj => ?_⟩
  · rw [sm_gI s (by decide) (by decide)]
  · rw [sm_gI s (by decide) (by decide)]
theorem MF_rl {w : Bool} {h h' : MH} (c : MF w h h') {dt ds : Option Den} (rl : rlM h (gI h 68 3) dt ds) : rlM h' (gI h' 68 3) dt ds := by
  rw [c.2.2.2 3 (Or.inl (by decide))]
  exact rlM_sm' c.1 (by decide) rl
theorem MQ_mdl {w : Bool} {h : MH} {n : Nat} {W : Nat → Nat} {s : TS} (t : MTh w h n W s) : mdl h n W s.1 s.2.1 := ⟨t.1, t.2.1, t.2.2.1, fun p hp => t.2.2.2.1 p (by have := t.1; omega), t.2.2.2.2.1⟩
theorem MQ_73 {w : Bool} {h h' : MH} {n : Nat} {W : Nat → Nat} {s : TS} (z : sm [73, 75] h h') (t : MTh w h n W s) : MTh w h' n W s := by
  unfold MTh
  rw [sm_gI z (by decide) (by decide)]
  exact t
theorem MTa_P {w : Bool} {a : Nat → Int32} {n : Nat} {W : Nat → Nat} {s : TS} {p v : Nat} (t : MTa w a n W s) (hp : p < 4) (hv : v ≤ 8) : MTa w (va_up a (9 + p) (nI v)) n W (va_up s.1 p v, s.2) := by
  obtain ⟨t0, t1, t2, t3, t4, t5, t6, t7, t8⟩ := t
  refine ⟨t0, by rw [up_o _ _ (by omega)]; exact t1, fun p' hp' => by rw [up_o _ _ (by omega)]; exact t2 p' hp', fun p' hp' => ?_, fun c hc => by rw [up_o _ _ (by omega)]; exact t4 c hc, by rw [up_o _ _ (by omega)]; exact t5, by rw [up_o _ _ (by omega)]; exact t6, fun hw => by rw [up_o _ _ (by omega)]; exact t7 hw, fun hw k hk => by rw [up_o _ _ (by omega)]; exact t8 hw k hk⟩
  show va_up a (9 + p) (nI v) (9 + p') = nI (va_up s.1 p v p') ∧ va_up s.1 p v p' ≤ 8
  by_cases e : p' = p
  · subst e; rw [up_s, up_s]; exact ⟨rfl, hv⟩
  · rw [up_o _ _ (by omega), up_o _ _ e]; exact t3 p' hp'
theorem MTa_S {w : Bool} {a : Nat → Int32} {n : Nat} {W : Nat → Nat} {s : TS} {c v : Nat} (t : MTa w a n W s) (hc : c < 9) (hv : v ≤ 9) : MTa w (va_up a (13 + c) (nI v)) n W (s.1, va_up s.2.1 c v, s.2.2) := by
  obtain ⟨t0, t1, t2, t3, t4, t5, t6, t7, t8⟩ := t
  refine ⟨t0, by rw [up_o _ _ (by omega)]; exact t1, fun p' hp' => by rw [up_o _ _ (by omega)]; exact t2 p' hp', fun p' hp' => by rw [up_o _ _ (by omega)]; exact t3 p' hp', fun c' hc' => ?_, by rw [up_o _ _ (by omega)]; exact t5, by rw [up_o _ _ (by omega)]; exact t6, fun hw => by rw [up_o _ _ (by omega)]; exact t7 hw, fun hw k hk => by rw [up_o _ _ (by omega)]; exact t8 hw k hk⟩
  show va_up a (13 + c) (nI v) (13 + c') = nI (va_up s.2.1 c v c') ∧ va_up s.2.1 c v c' ≤ 9
  by_cases e : c' = c
  · subst e; rw [up_s, up_s]; exact ⟨rfl, hv⟩
  · rw [up_o _ _ (by omega), up_o _ _ e]; exact t4 c' hc'
theorem MTa_X {w : Bool} {a : Nat → Int32} {n : Nat} {W : Nat → Nat} {s : TS} {v : Nat} (t : MTa w a n W s) (hv : v ≤ 30840) : MTa w (va_up a 7 (nI v)) n W (s.1, s.2.1, s.2.2.1, v, s.2.2.2.2) := by
  obtain ⟨t0, t1, t2, t3, t4, t5, t6, t7, t8⟩ := t
  exact ⟨t0, by rw [up_o _ _ (by omega)]; exact t1, fun p' hp' => by rw [up_o _ _ (by omega)]; exact t2 p' hp', fun p' hp' => by rw [up_o _ _ (by omega)]; exact t3 p' hp', fun c' hc' => by rw [up_o _ _ (by omega)]; exact t4 c' hc', by rw [up_o _ _ (by omega)]; exact t5, by rw [up_s]; exact ⟨rfl, hv⟩, fun hw => by rw [up_o _ _ (by omega)]; exact t7 hw, fun hw k hk => by rw [up_o _ _ (by omega)]; exact t8 hw k hk⟩
theorem MTa_H {w : Bool} {a : Nat → Int32} {n : Nat} {W : Nat → Nat} {s : TS} {v : Nat} (t : MTa w a n W s) (hv : v ≤ 9999) : MTa w (va_up a 6 (nI v)) n W (s.1, s.2.1, v, s.2.2.2) := by
  obtain ⟨t0, t1, t2, t3, t4, t5, t6, t7, t8⟩ := t
  exact ⟨t0, by rw [up_o _ _ (by omega)]; exact t1, fun p' hp' => by rw [up_o _ _ (by omega)]; exact t2 p' hp', fun p' hp' => by rw [up_o _ _ (by omega)]; exact t3 p' hp', fun c' hc' => by rw [up_o _ _ (by omega)]; exact t4 c' hc', by rw [up_s]; exact ⟨rfl, hv⟩, by rw [up_o _ _ (by omega)]; exact t6, fun hw => by rw [up_o _ _ (by omega)]; exact t7 hw, fun hw k hk => by rw [up_o _ _ (by omega)]; exact t8 hw k hk⟩
def stp (b : Bool) : Int32 := match b with
  | true => 1
  | false => -1
/-- one place further -/
def stepV (x : Nat) (r : Bool) : Option Nat := if r then (if x < 8 then some (x + 1) else none) else (if 0 < x then some (x - 1) else none)
theorem stepP_V (P : Nat → Nat) (p : Nat) (r : Bool) : stepP P p r = (stepV (P p) r).map (fun v => va_up P p v) := by
  unfold stepP stepV
  cases r
  · simp only [Bool.false_eq_true, if_false]; split <;> rfl
  · simp only [if_true]; split <;> rfl
theorem stepV_inv {x v : Nat} {r : Bool} (hx : x ≤ 8) (e : stepV x r = some v) : v ≤ 8 ∧ stepV v (!r) = some x := by
  unfold stepV at e ⊢
  cases r
  · simp only [Bool.false_eq_true, if_false, Bool.not_false, if_true] at e ⊢
    split at e
    · cases e; exact ⟨by omega, by rw [if_pos (by omega)]; congr 1; omega⟩
    · cases e
  · simp only [if_true, Bool.not_true, Bool.false_eq_true, if_false] at e ⊢
    split at e
    · cases e; exact ⟨by omega, by rw [if_pos (by omega)]; congr 1⟩
    · cases e
section MDEED
theorem m_stepN {h : MH} (L : lay h) (d : Nat) (a : Int32) : F_X11_step (d + 1) a h = some (.int (stp (tb a)), h) := by
  rw [S_X11_step L d]
  by_cases ha : a = 0
  · rw [if_pos ha, tb0 ha]; rfl
  · rw [if_neg ha, tb1 ha]; rfl
theorem m_canStep {h : MH} (L : lay h) (d : Nat) {w : Bool} {n : Nat} {W : Nat → Nat} {s : TS} (t : MTh w h n W s) {p : Nat} (hp : p < n) (a : Int32) : F_X11_canStep (d + 3) (nI p) a h = some (.int (oz (stepV (s.1 p) (tb a))), h) := by
  have hn := t.1
  have tp := t.2.2.2.1 p (by omega)
  rw [S_X11_canStep L (d + 2), m_isPerson L d (MQ_mdl t), cI_some, bI_pos (ib_nI hp (by omega)), if_neg i10, nIa, ck_pos (ib_nI (by omega) (by omega)), ix_nI (by omega), tp.1, m_stepN L, cI_some, m_isPlace L, cI_some]
  unfold stepV
  cases tb a
  · simp only [Bool.false_eq_true, if_false]
    show (if bI (ib (nI (s.1 p) + (-1)) 9) = 0 then _ else _) = _
    by_cases h0 : 0 < s.1 p
    · obtain ⟨k, hk⟩ : ∃ k, s.1 p = k + 1 := ⟨s.1 p - 1, by omega⟩
      rw [hk, pk_m1, bI_pos (ib_nI (by omega) (by omega)), if_neg i10, if_pos (by omega)]
      rfl
    · rw [show s.1 p = 0 by omega, bI_neg (fun q => by
        obtain ⟨j, hj, e⟩ := ib_at q (by omega)
        exact nI_m1 (a := j) (by omega) (e.symm.trans (by decide +kernel))), if_pos rfl, if_neg (by omega)]
      rfl
  · simp only [if_true]
    show (if bI (ib (nI (s.1 p) + 1) 9) = 0 then _ else _) = _
    rw [nI_1]
    by_cases h0 : s.1 p < 8
    · rw [bI_pos (ib_nI (by omega) (by omega)), if_neg i10, if_pos h0]
      rfl
    · rw [bI_neg (fun q => by have := (ib_nIi (by omega)).mp q; omega), if_pos rfl, if_neg h0]
      rfl
theorem m_canStepN {h : MH} (L : lay h) (d : Nat) {w : Bool} {n : Nat} {W : Nat → Nat} {s : TS} (t : MTh w h n W s) {a1 : Int32} (hp : ¬ ib a1 n) (a : Int32) : F_X11_canStep (d + 3) a1 a h = some (.int 0, h) := by
  rw [S_X11_canStep L (d + 2), m_isPerson L d (MQ_mdl t), cI_some, bI_neg hp, if_pos rfl]
theorem m_move {h : MH} (L : lay h) (d : Nat) {w : Bool} {n : Nat} {W : Nat → Nat} {s : TS} (t : MTh w h n W s) {p v : Nat} (hp : p < 4) {a : Int32} (e : stepV (s.1 p) (tb a) = some v) : ∃ h', F_X11_move (d + 2) (nI p) a h = some (.int 0, h') ∧ MTh w h' n W (va_up s.1 p v, s.2) ∧ MF w h h' ∧ gI h' 67 = gI h 67 := by
  have tp := t.2.2.2.1 p (by omega)
  have hv := (stepV_inv tp.2 e).1
  have ev : nI (s.1 p) + stp (tb a) = nI v := by
    unfold stepV at e
    cases hb : tb a <;> rw [hb] at e
    · simp only [Bool.false_eq_true, if_false] at e
      show nI (s.1 p) + (-1) = nI v
      split at e
      · obtain ⟨k, hk⟩ : ∃ k, s.1 p = k + 1 := ⟨s.1 p - 1, by omega⟩
        cases e
        rw [hk, pk_m1]
        rfl
      · cases e
    · simp only [if_true] at e
      show nI (s.1 p) + 1 = nI v
      split at e
      · cases e; exact nI_1 _
      · cases e
  rw [S_X11_move L (d + 1), nIa, ck_pos (ib_nI (by omega) (by omega)), m_stepN L, cI_some, ck_pos (ib_nI (by omega) (by omega)), ix_nI (by omega), lt_def, tp.1, ev]
  refine ⟨_, rfl, ?_, MF_sI L (by omega), by rw [gI_sIo _ _ _ _ _ (by decide)]⟩
  unfold MTh
  rw [gI_sIs]
  exact MTa_P t hp hv
theorem m_stl {h : MH} (L : lay h) (d : Nat) {w : Bool} {n : Nat} {W : Nat → Nat} {s : TS} (t : MTh w h n W s) {dt : Option Den} {ds : Option Den} (rl : rlM h (gI h 68 3) dt ds) : ∃ h', F_X11_isFar (d + 9) h = some (.int (bz (!(stl n W s.1 s.2.1 s.2.2.1 dt))), h') ∧ MTh w h' n W s ∧ MF w h h' ∧ gI h' 67 = gI h 67 := by
  obtain ⟨h1, e1, s1⟩ := m_isFar L d (MQ_mdl t) t.2.2.2.2.2.1.1 t.2.2.2.2.2.1.2 rl
  rw [bI_stlN] at e1
  exact ⟨h1, e1, MQ_73 s1 t, MF_73 s1 (lay_F e1 L rfl), sm_gI s1 (by decide) (by decide)⟩
theorem m_canWalk {h : MH} (L : lay h) (d : Nat) {w : Bool} {n : Nat} {W : Nat → Nat} {s : TS} (t : MTh w h n W s) {dt : Option Den} {ds : Option Den} (rl : rlM h (gI h 68 3) dt ds) {p : Nat} (hp : p < n) (a : Int32) : ∃ h', F_X11_canWalk (d + 10) (nI p) a h = some (.int (oz (goS n W dt s p (tb a))), h') ∧ MTh w h' n W s ∧ MF w h h' ∧ gI h' 67 = gI h 67 := by
  have hn := t.1
  have tp := t.2.2.2.1 p (by omega)
  rw [S_X11_canWalk L (d + 9), m_canStep L (d + 6) t hp a, cI_some]
  unfold goS
  rw [stepP_V]
  cases hs : stepV (s.1 p) (tb a) with
  | none => exact ⟨h, rfl, t, MF_refl L, rfl⟩
  | some v =>
    obtain ⟨h1, e1, t1, f1, g1⟩ := m_move L (d + 7) t (by omega) hs
    obtain ⟨h2, e2, t2, f2, g2⟩ := m_stl f1.2.1 d t1 (MF_rl f1 rl)
    rw [if_neg (oz1 v), e1, cV_some, e2, cI_some]
    dsimp only [Option.map]
    have inv := stepV_inv tp.2 hs
    have back : ∀ (b : Int32), tb b = !(tb a) → ∀ x : Int32, mrt 1 x → ∃ h', G_X11_canWalk_25 (d + 9) (nI p) a x b (nI p) h2 = some (.int x, h') ∧ MTh w h' n W s ∧ MF w h h' ∧ gI h' 67 = gI h 67 := by
      intro b hb x hx
      obtain ⟨h3, e3, t3, f3, g3⟩ := m_move f2.2.1 (d + 7) t2 (p := p) (v := s.1 p) (a := b) (by omega) (by
        show stepV (va_up s.1 p v p) (tb b) = _
        rw [up_s, hb]; exact inv.2)
      rw [S_X11_canWalk_25 f2.2.1 (d + 9), e3, cV_some, ck_pos hx]
      dsimp only at t3
      rw [up_back] at t3
      exact ⟨h3, rfl, t3, MF_trans f1 (MF_trans f2 f3), g3.trans (g2.trans g1)⟩
    have go : ∀ x : Int32, mrt 1 x → ∃ h', G_X11_canWalk_17 (d + 9) (nI p) a x h2 = some (.int x, h') ∧ MTh w h' n W s ∧ MF w h h' ∧ gI h' 67 = gI h 67 := by
      intro x hx
      rw [S_X11_canWalk_17 f2.2.1 (d + 9)]
      by_cases ha : a = 0
      · rw [if_pos ha]; exact back 1 (by rw [tb0 ha]; rfl) x hx
      · rw [if_neg ha]; exact back 0 (by rw [tb1 ha]; rfl) x hx
    cases hst : stl n W (va_up s.1 p v) s.2.1 s.2.2.1 dt with
    | true =>
      rw [if_pos (show bz (!true) = 0 from rfl)]
      exact go 1 (Or.inr rfl)
    | false =>
      rw [if_neg (show ¬ bz (!false) = 0 from bz1)]
      exact go 0 (Or.inl rfl)
theorem m_canPair {h : MH} (L : lay h) (d : Nat) {w : Bool} {n : Nat} {W : Nat → Nat} {s : TS} (t : MTh w h n W s) {dt : Option Den} {ds : Option Den} (rl : rlM h (gI h 68 3) dt ds) {p p2 : Nat} (hp : p < n) (hp2 : p2 < n) (a b : Int32) : ∃ h', F_X11_canPair (d + 10) (nI p) a (nI p2) b h = some (.int (oz (pairS n W dt s p (tb a) p2 (tb b))), h') ∧ MTh w h' n W s ∧ MF w h h' ∧ gI h' 67 = gI h 67 := by
  have hn := t.1
  have tp := t.2.2.2.1 p (by omega)
  have tp2 := t.2.2.2.1 p2 (by omega)
  rw [S_X11_canPair L (d + 9)]
  unfold pairS
  by_cases hpp : p = p2
  · rw [if_pos (congrArg nI hpp), if_pos hpp]
    exact ⟨h, rfl, t, MF_refl L, rfl⟩
  rw [if_neg (fun e => hpp ((nI_eq (by omega) (by omega)).mp e)), if_neg hpp, m_canStep L (d + 6) t hp a, cI_some, stepP_V]
  cases hs : stepV (s.1 p) (tb a) with
  | none => exact ⟨h, rfl, t, MF_refl L, rfl⟩
  | some v =>
    rw [if_neg (oz1 v), m_canStep L (d + 6) t hp2 b, cI_some]
    dsimp only [Option.map]
    rw [stepP_V, up_o _ _ (fun q => hpp q.symm)]
    cases hs2 : stepV (s.1 p2) (tb b) with
    | none => exact ⟨h, rfl, t, MF_refl L, rfl⟩
    | some v2 =>
      obtain ⟨h1, e1, t1, f1, g1⟩ := m_move L (d + 7) t (by omega) hs
      obtain ⟨h2, e2, t2, f2, g2⟩ := m_move f1.2.1 (d + 7) t1 (p := p2) (v := v2) (a := b) (by omega) (by
        show stepV (va_up s.1 p v p2) (tb b) = _
        rw [up_o _ _ (fun q => hpp q.symm)]; exact hs2)
      obtain ⟨h3, e3, t3, f3, g3⟩ := m_stl f2.2.1 d t2 (MF_rl f2 (MF_rl f1 rl))
      rw [if_neg (oz1 v2), e1, cV_some, e2, cV_some, e3, cI_some]
      dsimp only [Option.map]
      have inv := stepV_inv tp.2 hs
      have inv2 := stepV_inv tp2.2 hs2
      have back : ∀ (a' b' : Int32), tb a' = !(tb a) → tb b' = !(tb b) → ∀ x : Int32, mrt 1 x → ∃ h5 h4, F_X11_move (d + 9) (nI p) a' h3 = some (.int 0, h4) ∧ lay h4 ∧ F_X11_move (d + 9) (nI p2) b' h4 = some (.int 0, h5) ∧ MTh w h5 n W s ∧ MF w h h5 ∧ gI h5 67 = gI h 67 := by
        intro a' b' ha hb x hx
        obtain ⟨h4, e4, t4, f4, g4⟩ := m_move f3.2.1 (d + 7) t3 (p := p) (v := s.1 p) (a := a') (by omega) (by
          show stepV (va_up (va_up s.1 p v) p2 v2 p) (tb a') = _
          rw [up_o _ _ hpp, up_s, ha]; exact inv.2)
        obtain ⟨h5, e5, t5, f5, g5⟩ := m_move f4.2.1 (d + 7) t4 (p := p2) (v := s.1 p2) (a := b') (by omega) (by
          show stepV (va_up (va_up (va_up s.1 p v) p2 v2) p (s.1 p) p2) (tb b') = _
          rw [up_o _ _ (fun q => hpp q.symm), up_s, hb]; exact inv2.2)
        dsimp only at t5
        rw [up_back2 _ _ _ hpp] at t5
        exact ⟨h5, h4, e4, f4.2.1, e5, t5, MF_trans f1 (MF_trans f2 (MF_trans f3 (MF_trans f4 f5))), g5.trans (g4.trans (g3.trans (g2.trans g1)))⟩
      have go : ∀ x : Int32, mrt 1 x → ∃ h', G_X11_canPair_29 (d + 9) (nI p) a (nI p2) b x h3 = some (.int x, h') ∧ MTh w h' n W s ∧ MF w h h' ∧ gI h' 67 = gI h 67 := by
        intro x hx
        have mid : ∀ a', tb a' = !(tb a) → ∃ h', G_X11_canPair_37 (d + 9) (nI p) a (nI p2) b x a' (nI p) h3 = some (.int x, h') ∧ MTh w h' n W s ∧ MF w h h' ∧ gI h' 67 = gI h 67 := by
          intro a' ha
          by_cases hb : b = 0
          · obtain ⟨h5, h4, e4, L4, e5, r⟩ := back a' 1 ha (by rw [tb0 hb]; rfl) x hx
            rw [S_X11_canPair_37 f3.2.1 (d + 9), e4, cV_some, if_pos hb, S_X11_canPair_45 L4 (d + 9), e5, cV_some, ck_pos hx]
            exact ⟨h5, rfl, r⟩
          · obtain ⟨h5, h4, e4, L4, e5, r⟩ := back a' 0 ha (by rw [tb1 hb]; rfl) x hx
            rw [S_X11_canPair_37 f3.2.1 (d + 9), e4, cV_some, if_neg hb, S_X11_canPair_45 L4 (d + 9), e5, cV_some, ck_pos hx]
            exact ⟨h5, rfl, r⟩
        rw [S_X11_canPair_29 f3.2.1 (d + 9)]
        by_cases ha : a = 0
        · rw [if_pos ha]; exact mid 1 (by rw [tb0 ha]; rfl)
        · rw [if_neg ha]; exact mid 0 (by rw [tb1 ha]; rfl)
      cases hst : stl n W (va_up (va_up s.1 p v) p2 v2) s.2.1 s.2.2.1 dt with
      | true =>
        rw [if_pos (show bz (!true) = 0 from rfl)]
        exact go 1 (Or.inr rfl)
      | false =>
        rw [if_neg (show ¬ bz (!false) = 0 from bz1)]
        exact go 0 (Or.inl rfl)
theorem m_canShovel {h : MH} (L : lay h) (d : Nat) {w : Bool} {n : Nat} {W : Nat → Nat} {s : TS} (t : MTh w h n W s) {dt : Option Den} {ds : Option Den} (rl : rlM h (gI h 68 3) dt ds) {c k : Nat} (hc : c < 9) (hk1 : 1 ≤ k) (hk : k ≤ 9) : ∃ h', F_X11_canShovel (d + 10) (nI c) (nI k) h = some (.int (oz (clearS n W dt s c k)), h') ∧ MTh w h' n W s ∧ MF w h h' ∧ gI h' 67 = gI h 67 := by
  have tc := t.2.2.2.2.1 c hc
  unfold clearS
  rw [S_X11_canShovel L (d + 9), m_isPlace L, cI_some, bI_pos (ib_nI hc (by omega)), if_neg i10, m_isIn L, cI_some, bI_pos ⟨nI_le (a := 1) (by omega) (by omega), nI_le (b := 9) (by omega) (by omega)⟩, if_neg i10, nIa, ck_pos (ib_nI (by omega) (by omega)), ix_nI (by omega), tc.1]
  by_cases h1 : s.2.1 c < k
  · rw [if_pos (nI_lt h1 (by omega)), if_pos h1]
    exact ⟨h, rfl, t, MF_refl L, rfl⟩
  rw [if_neg (nI_nlt (by omega) (by omega)), if_neg h1, ck_pos (ib_nI (by omega) (by omega)), ck_pos (ib_nI (by omega) (by omega)), lt_def, pk_sub (by omega)]
  have f1 : MF w h (sI h 68 (13 + c) (nI (s.2.1 c - k))) := MF_sI L (by omega)
  have t1 : MTh w (sI h 68 (13 + c) (nI (s.2.1 c - k))) n W (s.1, va_up s.2.1 c (s.2.1 c - k), s.2.2) := by
    unfold MTh
    rw [gI_sIs]
    exact MTa_S t hc (by omega)
  obtain ⟨h2, e2, t2, f2, g2⟩ := m_stl f1.2.1 d t1 (MF_rl f1 rl)
  rw [e2, cI_some]
  dsimp only
  have go : ∀ x : Int32, mrt 1 x → ∃ h', G_X11_canShovel_34 (d + 9) (nI c) (nI k) x h2 = some (.int x, h') ∧ MTh w h' n W s ∧ MF w h h' ∧ gI h' 67 = gI h 67 := by
    intro x hx
    have e3 : gI h2 68 (13 + c) = nI (s.2.1 c - k) := by
      have := (t2.2.2.2.2.1 c hc).1
      dsimp only at this
      rw [up_s] at this
      exact this
    rw [S_X11_canShovel_34 f2.2.1 (d + 9), nIa, ck_pos (ib_nI (by omega) (by omega)), ck_pos (ib_nI (by omega) (by omega)), ix_nI (by omega), lt_def, e3, nI_add, show s.2.1 c - k + k = s.2.1 c by omega, ck_pos hx]
    refine ⟨_, rfl, ?_, MF_trans f1 (MF_trans f2 (MF_sI f2.2.1 (by omega))), ?_⟩
    · have := MTa_S (c := c) (v := s.2.1 c) t2 hc tc.2
      dsimp only at this
      rw [up_back] at this
      unfold MTh
      rw [gI_sIs]
      exact this
    · rw [gI_sIo _ _ _ _ _ (by decide), g2, gI_sIo _ _ _ _ _ (by decide)]
  cases hs : stl n W s.1 (va_up s.2.1 c (s.2.1 c - k)) s.2.2.1 dt with
  | true =>
    rw [if_pos (show bz (!true) = 0 from rfl)]
    exact go 1 (Or.inr rfl)
  | false =>
    rw [if_neg (show ¬ bz (!false) = 0 from bz1)]
    exact go 0 (Or.inl rfl)
theorem m_anew {h : MH} (L : lay h) (d : Nat) {w : Bool} {n : Nat} {W : Nat → Nat} {s : TS} (t : MTh w h n W s) : ∃ h', F_X11_anew (d + 1) h = some (.int 0, h') ∧ MTh w h' n W (s.1, s.2.1, s.2.2.1, (s.2.2.2.1 * 601 + 467) % 30841, s.2.2.2.2) ∧ MF w h h' ∧ gI h' 67 = gI h 67 := by
  have tx := t.2.2.2.2.2.2.1
  rw [S_X11_anew L d, lt_def, tx.1, nI_l (by omega), show (601 : Int64) = lN 601 from rfl, show (467 : Int64) = lN 467 from rfl, show (30841 : Int64) = lN 30841 from rfl, lN_mul, lN_add, pk_lRem (by omega) (by omega) (by omega), lN_i]
  refine ⟨_, rfl, ?_, MF_sI L (by omega), by rw [gI_sIo _ _ _ _ _ (by decide)]⟩
  unfold MTh
  rw [gI_sIs]
  exact MTa_X t (by omega)
end MDEED
