--deps:19.lay 21.facts 22.00.names 22.01.eq 22.02.eq 22.03.eq 22.04.eq 22.05.eq 22.06.eq 22.07.eq 22.08.eq 22.09.eq 22.10.eq 22.11.eq 22.12.eq 22.13.eq 22.14.eq 22.15.eq 22.16.eq 22.17.eq 22.18.eq 22.19.eq 22.20.eq 22.21.eq 22.22.eq 22.23.eq 23.num 24.town 25.evc 26.evm 27.law 28.says 29.inv 30.api1 31.copy 32.api2 33.api3 34.api4 35.api5
/-! DEEDS of the town: pure, and the class's -/
set_option linter.unusedSectionVars false
theorem lay_F {d i : Nat} {as : List Value} {h h' : MH} {v : Value} (e : mE mtab d i as h = some (v, h')) (L : lay h) (hi : cokm i = true) : lay h' := lay_call d i as h v h' hi e L
def bz (b : Bool) : Int32 := match b with
  | true => 1
  | false => 0
def oz {α : Type} (o : Option α) : Int32 := match o with
  | none => 0
  | some _ => 1
theorem bz1 : ¬ bz true = 0 := by decide
theorem oz1 {α : Type} (a : α) : ¬ oz (some a) = 0 := by
  show ¬ (1 : Int32) = 0
  decide
/-- places, snow, hour, draw, lines, book -/
abbrev TS : Type := (Nat → Nat) × (Nat → Nat) × Nat × Nat × Nat × (Nat → Int32)
def CT (h : MH) (q n : Nat) (W : Nat → Nat) (s : TS) : Prop := n ≤ 4 ∧ gI h q 0 = nI n ∧ (∀ p, p < n → gI h (q + 1) p = nI (W p) ∧ W p ≤ 9) ∧ (∀ p, p < 4 → gI h (q + 2) p = nI (s.1 p) ∧ s.1 p ≤ 8) ∧ (∀ c, c < 9 → gI h (q + 4) c = nI (s.2.1 c) ∧ s.2.1 c ≤ 9) ∧ (gI h q 5 = nI s.2.2.1 ∧ s.2.2.1 ≤ 9999) ∧ (gI h q 6 = nI s.2.2.2.1 ∧ s.2.2.2.1 ≤ 30840) ∧ (gI h q 8 = nI s.2.2.2.2.1 ∧ s.2.2.2.2.1 ≤ 30) ∧ (∀ k, k < 30 → gI h (q + 5) k = s.2.2.2.2.2 k)
theorem CT_twn {h : MH} {q n : Nat} {W : Nat → Nat} {s : TS} (t : CT h q n W s) : twn h q n W s.1 s.2.1 := ⟨t.1, t.2.1, t.2.2.1, fun p hp => t.2.2.2.1 p (by have := t.1; omega), t.2.2.2.2.1⟩
def cZ (q : Nat) : List Nat := [q, q + 2, q + 4, q + 5, q + 6]
def CF (q : Nat) (h h' : MH) : Prop := sm (cZ q) h h' ∧ gR h' q = gR h q ∧ lay h'
theorem CF_refl {q : Nat} {h : MH} (L : lay h) : CF q h h := ⟨sm_refl _ h, rfl, L⟩
theorem CF_trans {q : Nat} {h1 h2 h3 : MH} (a : CF q h1 h2) (b : CF q h2 h3) : CF q h1 h3 := ⟨sm_trans a.1 b.1, b.2.1.trans a.2.1, b.2.2⟩
theorem cZ_lt {q a : Nat} (T : tAt q) (ha : a ∈ cZ q) : 10 ≤ a ∧ a < 84 := by
  have := tAt_lt T
  unfold cZ at ha
  simp only [List.mem_cons, List.not_mem_nil, or_false] at ha
  omega
theorem CF_rI {q : Nat} {h : MH} {a : Nat} {f : Nat → Int32} (T : tAt q) (L : lay h) (ha : a ∈ cZ q) : CF q h (rI h a f) := by
  have hx := cZ_lt T ha
  exact ⟨sm_rI (Or.inl ⟨ha, hx.2⟩), rfl, lay_rI L (by omega)⟩
theorem CF_sI {q : Nat} {h : MH} {a k : Nat} {v : Int32} (T : tAt q) (L : lay h) (ha : a ∈ cZ q) : CF q h (sI h a k v) := CF_rI T L ha
theorem CF_6 {q : Nat} {h h' : MH} (s : sm [q + 6] h h') (L : lay h') : CF q h h' := by
  refine ⟨sm_mono s (fun a ha => ?_), sm_gR s (Or.inl ?_), L⟩
  · unfold cZ
    simp only [List.mem_cons, List.not_mem_nil, or_false] at ha ⊢
    omega
  · simp only [List.mem_cons, List.not_mem_nil, or_false]
    omega
theorem CF_rl {q : Nat} {h h' : MH} (c : CF q h h') {dt ds : Option Den} (rl : rlC h (gR h q 9) dt ds) : rlC h' (gR h' q 9) dt ds := by
  rw [c.2.1]
  exact rlC_sm c.1 rl
theorem CT_eq {h h' : MH} {q n : Nat} {W : Nat → Nat} {s : TS} (e0 : gI h' q = gI h q) (e1 : gI h' (q + 1) = gI h (q + 1)) (e2 : gI h' (q + 2) = gI h (q + 2)) (e4 : gI h' (q + 4) = gI h (q + 4)) (e5 : gI h' (q + 5) = gI h (q + 5)) (t : CT h q n W s) : CT h' q n W s := by
  unfold CT
  rw [e0, e1, e2, e4, e5]
  exact t
theorem CT_6 {h h' : MH} {q n : Nat} {W : Nat → Nat} {s : TS} (T : tAt q) (z : sm [q + 6] h h') (t : CT h q n W s) : CT h' q n W s := by
  have hT := tAt_lt T
  have g : ∀ j, j < 6 → gI h' (q + j) = gI h (q + j) := fun j hj => sm_gI z (by simp only [List.mem_cons, List.not_mem_nil, or_false]; omega) (by omega)
  exact CT_eq (g 0 (by omega)) (g 1 (by omega)) (g 2 (by omega)) (g 4 (by omega)) (g 5 (by omega)) t
theorem CT_P {h : MH} {q n : Nat} {W : Nat → Nat} {s : TS} {p v : Nat} (t : CT h q n W s) (hv : v ≤ 8) : CT (sI h (q + 2) p (nI v)) q n W (va_up s.1 p v, s.2) := by
  obtain ⟨t0, t1, t2, t3, t4, t5, t6, t7, t8⟩ := t
  unfold CT
  rw [gI_sIo _ _ _ q _ (by omega), gI_sIo _ _ _ (q + 1) _ (by omega), gI_sIs, gI_sIo _ _ _ (q + 4) _ (by omega), gI_sIo _ _ _ (q + 5) _ (by omega)]
  refine ⟨t0, t1, t2, fun p' hp' => ?_, t4, t5, t6, t7, t8⟩
  show va_up (gI h (q + 2)) p (nI v) p' = nI (va_up s.1 p v p') ∧ va_up s.1 p v p' ≤ 8
  by_cases e : p' = p
  · subst e; rw [up_s, up_s]; exact ⟨rfl, hv⟩
  · rw [up_o _ _ e, up_o _ _ e]; exact t3 p' hp'
theorem CT_S {h : MH} {q n : Nat} {W : Nat → Nat} {s : TS} {c v : Nat} (t : CT h q n W s) (hv : v ≤ 9) : CT (sI h (q + 4) c (nI v)) q n W (s.1, va_up s.2.1 c v, s.2.2) := by
  obtain ⟨t0, t1, t2, t3, t4, t5, t6, t7, t8⟩ := t
  unfold CT
  rw [gI_sIo _ _ _ q _ (by omega), gI_sIo _ _ _ (q + 1) _ (by omega), gI_sIo _ _ _ (q + 2) _ (by omega), gI_sIs, gI_sIo _ _ _ (q + 5) _ (by omega)]
  refine ⟨t0, t1, t2, t3, fun c' hc' => ?_, t5, t6, t7, t8⟩
  show va_up (gI h (q + 4)) c (nI v) c' = nI (va_up s.2.1 c v c') ∧ va_up s.2.1 c v c' ≤ 9
  by_cases e : c' = c
  · subst e; rw [up_s, up_s]; exact ⟨rfl, hv⟩
  · rw [up_o _ _ e, up_o _ _ e]; exact t4 c' hc'
theorem CT_X {h : MH} {q n : Nat} {W : Nat → Nat} {s : TS} {v : Nat} (t : CT h q n W s) (hv : v ≤ 30840) : CT (sI h q 6 (nI v)) q n W (s.1, s.2.1, s.2.2.1, v, s.2.2.2.2) := by
  obtain ⟨t0, t1, t2, t3, t4, t5, t6, t7, t8⟩ := t
  unfold CT
  rw [gI_sIs, gI_sIo _ _ _ (q + 1) _ (by omega), gI_sIo _ _ _ (q + 2) _ (by omega), gI_sIo _ _ _ (q + 4) _ (by omega), gI_sIo _ _ _ (q + 5) _ (by omega), up_o _ _ (by decide), up_o _ _ (by decide), up_s, up_o _ _ (by decide)]
  exact ⟨t0, t1, t2, t3, t4, t5, ⟨rfl, hv⟩, t7, t8⟩
theorem CT_H {h : MH} {q n : Nat} {W : Nat → Nat} {s : TS} {v : Nat} (t : CT h q n W s) (hv : v ≤ 9999) : CT (sI h q 5 (nI v)) q n W (s.1, s.2.1, v, s.2.2.2) := by
  obtain ⟨t0, t1, t2, t3, t4, t5, t6, t7, t8⟩ := t
  unfold CT
  rw [gI_sIs, gI_sIo _ _ _ (q + 1) _ (by omega), gI_sIo _ _ _ (q + 2) _ (by omega), gI_sIo _ _ _ (q + 4) _ (by omega), gI_sIo _ _ _ (q + 5) _ (by omega), up_o _ _ (by decide), up_s, up_o _ _ (by decide), up_o _ _ (by decide)]
  exact ⟨t0, t1, t2, t3, t4, ⟨rfl, hv⟩, t6, t7, t8⟩
/-! pure deeds -/
def tb (a : Int32) : Bool := decide (¬ a = 0)
theorem tb0 {a : Int32} (h : a = 0) : tb a = false := by unfold tb; simp [h]
theorem tb1 {a : Int32} (h : ¬ a = 0) : tb a = true := by unfold tb; simp [h]
def stepP (P : Nat → Nat) (p : Nat) (r : Bool) : Option (Nat → Nat) := if r then (if P p < 8 then some (va_up P p (P p + 1)) else none) else (if 0 < P p then some (va_up P p (P p - 1)) else none)
theorem stepP_form {P P' : Nat → Nat} {p : Nat} {r : Bool} (e : stepP P p r = some P') : ∃ v, v ≤ P p + 1 ∧ P' = va_up P p v := by
  unfold stepP at e
  cases r
  · rw [if_neg (by decide)] at e
    split at e
    · cases e; exact ⟨P p - 1, by omega, rfl⟩
    · cases e
  · rw [if_pos rfl] at e
    split at e
    · cases e; exact ⟨P p + 1, by omega, rfl⟩
    · cases e
theorem up_back {α : Type} (f : Nat → α) (p : Nat) (v : α) : va_up (va_up f p v) p (f p) = f := by
  funext k
  by_cases e : k = p
  · subst e; rw [up_s]
  · rw [up_o _ _ e, up_o _ _ e]
theorem up_back2 {α : Type} (f : Nat → α) {p k : Nat} (v w : α) (hk : ¬ p = k) : va_up (va_up (va_up (va_up f p v) k w) p (f p)) k (f k) = f := by
  funext j
  by_cases e : j = k
  · subst e; rw [up_s]
  · rw [up_o _ _ e]
    by_cases e2 : j = p
    · subst e2; rw [up_s]
    · rw [up_o _ _ e2, up_o _ _ e, up_o _ _ e2]
noncomputable def stl (n : Nat) (W P SN : Nat → Nat) (H : Nat) (dt : Option Den) : Bool := decide ((tipZ n W P SN).natAbs ≤ tpsN dt (nmZ n W P SN H none) (ldZ n W P SN))
theorem bI_stl (n : Nat) (W P SN : Nat → Nat) (H : Nat) (dt : Option Den) : bI (still n W P SN H dt) = bz (stl n W P SN H dt) := by
  unfold stl still
  by_cases e : (tipZ n W P SN).natAbs ≤ tpsN dt (nmZ n W P SN H none) (ldZ n W P SN)
  · rw [bI_pos e, decide_eq_true e]; rfl
  · rw [bI_neg e, decide_eq_false e]; rfl
theorem bI_stlN (n : Nat) (W P SN : Nat → Nat) (H : Nat) (dt : Option Den) : bI (¬ still n W P SN H dt) = bz (!(stl n W P SN H dt)) := by
  unfold stl still
  by_cases e : (tipZ n W P SN).natAbs ≤ tpsN dt (nmZ n W P SN H none) (ldZ n W P SN)
  · rw [bI_neg (fun q => q e), decide_eq_true e]; rfl
  · rw [bI_pos e, decide_eq_false e]; rfl
noncomputable def goS (n : Nat) (W : Nat → Nat) (dt : Option Den) (s : TS) (p : Nat) (r : Bool) : Option TS := match stepP s.1 p r with
  | none => none
  | some P' => cond (stl n W P' s.2.1 s.2.2.1 dt) (some (P', s.2)) none
noncomputable def pairS (n : Nat) (W : Nat → Nat) (dt : Option Den) (s : TS) (p : Nat) (r : Bool) (p2 : Nat) (r2 : Bool) : Option TS := if p = p2 then none else match stepP s.1 p r with
  | none => none
  | some P1 => match stepP P1 p2 r2 with
    | none => none
    | some P2 => cond (stl n W P2 s.2.1 s.2.2.1 dt) (some (P2, s.2)) none
noncomputable def clearS (n : Nat) (W : Nat → Nat) (dt : Option Den) (s : TS) (c k : Nat) : Option TS := if s.2.1 c < k then none else cond (stl n W s.1 (va_up s.2.1 c (s.2.1 c - k)) s.2.2.1 dt) (some (s.1, va_up s.2.1 c (s.2.1 c - k), s.2.2)) none
def valE (H p f t : Nat) : Int32 := nI (((H * 4 + p) * 9 + f) * 9 + t)
def wrS (s : TS) (p f t : Nat) : TS := if s.2.2.2.2.1 < 30 then (s.1, s.2.1, s.2.2.1, s.2.2.2.1, s.2.2.2.2.1 + 1, va_up s.2.2.2.2.2 s.2.2.2.2.1 (valE s.2.2.1 p f t)) else (s.1, s.2.1, s.2.2.1, s.2.2.2.1, 30, va_up (fun k => s.2.2.2.2.2 (k + 1)) 29 (valE s.2.2.1 p f t))
noncomputable def slT (n : Nat) (W : Nat → Nat) (ds : Option Den) (r : Bool) (p : Nat) (s : TS) : Nat := if r then min (s.1 p + sldN ds (nmZ n W s.1 s.2.1 s.2.2.1 (some p)) (ldZ n W s.1 s.2.1)) 8 else s.1 p - sldN ds (nmZ n W s.1 s.2.1 s.2.2.1 (some p)) (ldZ n W s.1 s.2.1)
noncomputable def slS (n : Nat) (W : Nat → Nat) (ds : Option Den) (r : Bool) (p : Nat) (s : TS) : TS := if slT n W ds r p s = s.1 p then s else (va_up (wrS s p (s.1 p) (slT n W ds r p s)).1 p (slT n W ds r p s), (wrS s p (s.1 p) (slT n W ds r p s)).2)
def snS (s : TS) : TS := (s.1, va_up s.2.1 (s.2.2.2.1 % 9) (min (s.2.1 (s.2.2.2.1 % 9) + 1) 9), s.2.2.1, (s.2.2.2.1 * 601 + 467) % 30841, s.2.2.2.2)
noncomputable def slipS (n : Nat) (W : Nat → Nat) (dt : Option Den) (s : TS) : Bool := !(stl n W (snS s).1 (snS s).2.1 (snS s).2.2.1 dt)
noncomputable def sldS (n : Nat) (W : Nat → Nat) (dt ds : Option Den) (s : TS) : TS := cond (slipS n W dt s) (itr (slS n W ds (decide (0 < tipZ n W (snS s).1 (snS s).2.1))) (snS s) n) (snS s)
noncomputable def passS (n : Nat) (W : Nat → Nat) (dt ds : Option Den) (s : TS) : TS := ((sldS n W dt ds s).1, (sldS n W dt ds s).2.1, (sldS n W dt ds s).2.2.1 + 1, (sldS n W dt ds s).2.2.2)
noncomputable def hapS (n : Nat) (W : Nat → Nat) (dt ds : Option Den) (x : Nat) (s : TS) : TS :=
  if x % 6 = 2 then (clearS n W dt s (x / 6 % 9) 1).getD s
  else if x % 6 ≤ 3 then (if n = 0 then s else if x % 6 = 3 then (pairS n W dt s (x % n) false (x / 6 % n) true).getD s else (goS n W dt s (x % n) (decide (x % 6 = 1))).getD s)
  else if s.2.2.1 < 9999 then passS n W dt ds s else s
/-- a deed of the town q: whether it was done, and what became of it -/
def DO (f : MH → Option (Value × MH)) (q n : Nat) (W : Nat → Nat) (s : TS) (o : Option TS) (h : MH) : Prop := ∃ h', f h = some (.int (oz o), h') ∧ CT h' q n W (o.getD s) ∧ CF q h h'
section DEED
theorem c_shift {h : MH} (L : lay h) (d : Nat) {q : Nat} (T : tAt q) {n : Nat} {W : Nat → Nat} {s : TS} (t : CT h q n W s) {p : Nat} (hp : p < n) (a : Int32) : (stepP s.1 p (tb a) = none ∧ F_X9_shift (d + 3) q (nI p) a h = some (.int 0, h)) ∨ ∃ P' h', stepP s.1 p (tb a) = some P' ∧ F_X9_shift (d + 3) q (nI p) a h = some (.int 1, h') ∧ CT h' q n W (P', s.2) ∧ CF q h h' := by
  have hn := t.1
  have tp := t.2.2.2.1 p (by omega)
  have e : F_X9_shift (d + 3) q (nI p) a h = if a = 0 then G_X9_shift_15 (d + 2) q (nI p) a (-1) (nI (s.1 p)) h else G_X9_shift_15 (d + 2) q (nI p) a 1 (nI (s.1 p)) h := by
    rw [S_X9_shift L (d + 2) q _ _ T, c_has L d T (CT_twn t), cI_some, bI_pos (ib_nI hp (by omega)), if_neg i10, ck_pos (ib_nI (by omega) (by omega)), ix_nI (by omega), tp.1]
  have z2 : q + 2 ∈ cZ q := by unfold cZ; simp
  unfold stepP
  by_cases ha : a = 0
  · rw [tb0 ha, if_neg (by decide), e, if_pos ha, S_X9_shift_15 L (d + 2) q T, c_within L, cI_some]
    by_cases h0 : 0 < s.1 p
    · obtain ⟨k, hk⟩ : ∃ k, s.1 p = k + 1 := ⟨s.1 p - 1, by omega⟩
      rw [hk, pk_m1, bI_pos ⟨nI_pos' (by omega), (nIL (by omega) (by omega)).mpr (by omega)⟩, if_neg i10, ck_pos (ib_nI (by omega) (by omega)), lt_def, ix_nI (by omega), if_pos (by omega)]
      exact Or.inr ⟨_, _, rfl, rfl, CT_P t (by omega), CF_sI T L z2⟩
    · rw [show s.1 p = 0 by omega, bI_neg (by decide), if_pos rfl, if_neg (by omega)]
      exact Or.inl ⟨rfl, rfl⟩
  · rw [tb1 ha, if_pos rfl, e, if_neg ha, S_X9_shift_15 L (d + 2) q T, c_within L, cI_some, nI_1]
    by_cases h0 : s.1 p < 8
    · rw [bI_pos ⟨nI_pos' (by omega), (nIL (by omega) (by omega)).mpr (by omega)⟩, if_neg i10, ck_pos (ib_nI (by omega) (by omega)), lt_def, ix_nI (by omega), if_pos h0]
      exact Or.inr ⟨_, _, rfl, rfl, CT_P t (by omega), CF_sI T L z2⟩
    · rw [bI_neg (fun w => by have := (nIL (by omega) (by omega)).mp w.2; omega), if_pos rfl, if_neg h0]
      exact Or.inl ⟨rfl, rfl⟩
theorem c_stl {h : MH} (L : lay h) (d : Nat) {q : Nat} (T : tAt q) {n : Nat} {W : Nat → Nat} {s : TS} (t : CT h q n W s) {dt : Option Den} {ds : Option Den} (rl : rlC h (gR h q 9) dt ds) : ∃ h', F_X9_holdsStill (d + 4) q h = some (.int (bz (stl n W s.1 s.2.1 s.2.2.1 dt)), h') ∧ CT h' q n W s ∧ CF q h h' := by
  obtain ⟨h1, e1, s1⟩ := c_holdsStill L d T (CT_twn t) t.2.2.2.2.2.1.1 t.2.2.2.2.2.1.2 rl
  rw [bI_stl] at e1
  exact ⟨h1, e1, CT_6 T s1 t, CF_6 s1 (lay_F e1 L rfl)⟩
theorem c_go {h : MH} (L : lay h) (d : Nat) {q : Nat} (T : tAt q) {n : Nat} {W : Nat → Nat} {s : TS} (t : CT h q n W s) {dt : Option Den} {ds : Option Den} (rl : rlC h (gR h q 9) dt ds) {p : Nat} (hp : p < n) (a : Int32) : DO (F_X9_go (d + 5) q (nI p) a) q n W s (goS n W dt s p (tb a)) h := by
  have hn := t.1
  have tp := t.2.2.2.1 p (by omega)
  have z2 : q + 2 ∈ cZ q := by unfold cZ; simp
  have bk : ∀ {k : MH} {v : Nat}, lay k → CT k q n W (va_up s.1 p v, s.2) → CT (sI k (q + 2) p (nI (s.1 p))) q n W s := by
    intro k v Lk tk
    have := CT_P (p := p) (v := s.1 p) tk tp.2
    dsimp only at this
    rw [up_back] at this
    exact this
  unfold DO goS
  rw [S_X9_go L (d + 4) q _ _ T, c_has L (d + 2) T (CT_twn t), cI_some, bI_pos (ib_nI hp (by omega)), if_neg i10, ck_pos (ib_nI (by omega) (by omega)), ix_nI (by omega), tp.1, lt_def]
  rcases c_shift L (d + 1) T t hp a with ⟨e, e1⟩ | ⟨P', h1, e, e1, t1, f1⟩
  · rw [e, e1, cI_some, if_pos rfl, S_X9_go_21 L (d + 4) q T, ck_pos (ib_nI (by omega) (by omega)), lt_def, ix_nI (by omega)]
    refine ⟨_, rfl, ?_, CF_sI T L z2⟩
    refine bk (v := s.1 p) L ?_
    have : va_up s.1 p (s.1 p) = s.1 := by
      funext k
      by_cases e : k = p
      · subst e; rw [up_s]
      · rw [up_o _ _ e]
    rw [this]
    exact t
  · have L1 := f1.2.2
    obtain ⟨h2, e2, t2, f2⟩ := c_stl L1 d T t1 (CF_rl f1 rl)
    rw [e, e1, cI_some, if_neg i10, e2, cI_some]
    dsimp only
    cases hs : stl n W P' s.2.1 s.2.2.1 dt with
    | true =>
      rw [if_neg bz1]
      exact ⟨h2, rfl, t2, CF_trans f1 f2⟩
    | false =>
      rw [if_pos (show bz false = 0 from rfl), S_X9_go_21 f2.2.2 (d + 4) q T, ck_pos (ib_nI (by omega) (by omega)), lt_def, ix_nI (by omega)]
      obtain ⟨v, -, rfl⟩ := stepP_form e
      exact ⟨_, rfl, bk f2.2.2 t2, CF_trans (CF_trans f1 f2) (CF_sI T f2.2.2 z2)⟩
theorem c_goPaired {h : MH} (L : lay h) (d : Nat) {q : Nat} (T : tAt q) {n : Nat} {W : Nat → Nat} {s : TS} (t : CT h q n W s) {dt : Option Den} {ds : Option Den} (rl : rlC h (gR h q 9) dt ds) {p p2 : Nat} (hp : p < n) (hp2 : p2 < n) (a b : Int32) : DO (F_X9_goPaired (d + 5) q (nI p) a (nI p2) b) q n W s (pairS n W dt s p (tb a) p2 (tb b)) h := by
  have hn := t.1
  have tp := t.2.2.2.1 p (by omega)
  have tp2 := t.2.2.2.1 p2 (by omega)
  have z2 : q + 2 ∈ cZ q := by unfold cZ; simp
  unfold DO pairS
  rw [S_X9_goPaired L (d + 4) q _ _ _ _ T]
  by_cases hpp : p = p2
  · rw [if_pos (congrArg nI hpp), if_pos hpp]
    exact ⟨h, rfl, t, CF_refl L⟩
  rw [if_neg (fun e => hpp ((nI_eq (by omega) (by omega)).mp e)), if_neg hpp, c_has L (d + 2) T (CT_twn t), cI_some, bI_pos (ib_nI hp (by omega)), if_neg i10, c_has L (d + 2) T (CT_twn t), cI_some, bI_pos (ib_nI hp2 (by omega)), if_neg i10, ck_pos (ib_nI (by omega) (by omega)), ix_nI (by omega), tp.1, lt_def, ck_pos (ib_nI (by omega) (by omega)), ix_nI (by omega), tp2.1, lt_def]
  have bk : ∀ {k : MH} {v w : Nat}, lay k → CT k q n W (va_up (va_up s.1 p v) p2 w, s.2) → ∃ h', G_X9_goPaired_38 (d + 4) q (nI p) a (nI p2) b (nI (s.1 p)) (nI (s.1 p2)) k = some (.int 0, h') ∧ CT h' q n W s ∧ CF q k h' := by
    intro k v w Lk tk
    rw [S_X9_goPaired_38 Lk (d + 4) q T, ck_pos (ib_nI (by omega) (by omega)), ix_nI (by omega), lt_def, ck_pos (ib_nI (by omega) (by omega)), ix_nI (by omega), lt_def]
    have c1 := CF_sI (k := p) (v := nI (s.1 p)) T Lk z2
    have c2 := CF_sI (k := p2) (v := nI (s.1 p2)) T c1.2.2 z2
    refine ⟨_, rfl, ?_, CF_trans c1 c2⟩
    have := CT_P (p := p2) (v := s.1 p2) (CT_P (p := p) (v := s.1 p) tk tp.2) tp2.2
    dsimp only at this
    rw [up_back2 _ _ _ hpp] at this
    exact this
  have self : ∀ (f : Nat → Nat) (k : Nat), va_up f k (f k) = f := by
    intro f k
    funext j
    by_cases e : j = k
    · subst e; rw [up_s]
    · rw [up_o _ _ e]
  rcases c_shift L (d + 1) T t hp a with ⟨e, e1⟩ | ⟨P', h1, e, e1, t1, f1⟩
  · rw [e, e1, cI_some, if_pos rfl]
    exact bk (v := s.1 p) (w := s.1 p2) L (by rw [self, self]; exact t)
  · have L1 := f1.2.2
    obtain ⟨v, hv, rfl⟩ := stepP_form e
    rw [e, e1, cI_some, if_neg i10]
    dsimp only
    rcases c_shift L1 (d + 1) T t1 hp2 b with ⟨e', e1'⟩ | ⟨P2, h2, e', e1', t2, f2⟩
    · have e'' : stepP (va_up s.1 p v) p2 (tb b) = none := e'
      rw [e'', e1', cI_some, if_pos rfl]
      have o2 : va_up (va_up s.1 p v) p2 (s.1 p2) = va_up s.1 p v := by
        have := self (va_up s.1 p v) p2
        rw [up_o _ _ (fun w => hpp w.symm)] at this
        exact this
      obtain ⟨k, ek, tk, fk⟩ := bk (v := v) (w := s.1 p2) L1 (by rw [o2]; exact t1)
      exact ⟨k, ek, tk, CF_trans f1 fk⟩
    · have e'' : stepP (va_up s.1 p v) p2 (tb b) = some P2 := e'
      obtain ⟨w, -, rfl⟩ := stepP_form e''
      obtain ⟨h3, e3, t3, f3⟩ := c_stl f2.2.2 d T t2 (CF_rl f2 (CF_rl f1 rl))
      rw [e'', e1', cI_some, if_neg i10, e3, cI_some]
      dsimp only
      cases hs : stl n W (va_up (va_up s.1 p v) p2 w) s.2.1 s.2.2.1 dt with
      | true =>
        rw [if_neg bz1]
        exact ⟨h3, rfl, t3, CF_trans f1 (CF_trans f2 f3)⟩
      | false =>
        rw [if_pos (show bz false = 0 from rfl)]
        obtain ⟨k, ek, tk, fk⟩ := bk f3.2.2 t3
        exact ⟨k, ek, tk, CF_trans f1 (CF_trans f2 (CF_trans f3 fk))⟩
theorem c_clear {h : MH} (L : lay h) (d : Nat) {q : Nat} (T : tAt q) {n : Nat} {W : Nat → Nat} {s : TS} (t : CT h q n W s) {dt : Option Den} {ds : Option Den} (rl : rlC h (gR h q 9) dt ds) {c k : Nat} (hc : c < 9) (hk : k ≤ 9) : DO (F_X9_clear (d + 5) q (nI c) (nI k)) q n W s (clearS n W dt s c k) h := by
  have tc := t.2.2.2.2.1 c hc
  have z4 : q + 4 ∈ cZ q := by unfold cZ; simp
  unfold DO clearS
  rw [S_X9_clear L (d + 4) q _ _ T, ck_pos (ib_nI (by omega) (by omega)), ix_nI (by omega), tc.1]
  by_cases h1 : s.2.1 c < k
  · rw [if_pos (nI_lt h1 (by omega)), if_pos h1]
    exact ⟨h, rfl, t, CF_refl L⟩
  rw [if_neg (nI_nlt (by omega) (by omega)), if_neg h1, ck_pos (ib_nI (by omega) (by omega)), ck_pos (ib_nI (by omega) (by omega)), lt_def, pk_sub (by omega)]
  have f1 := CF_sI (k := c) (v := nI (s.2.1 c - k)) T L z4
  have t1 := CT_S (c := c) (v := s.2.1 c - k) t (by omega)
  obtain ⟨h2, e2, t2, f2⟩ := c_stl f1.2.2 d T t1 (CF_rl f1 rl)
  rw [e2, cI_some]
  dsimp only
  cases hs : stl n W s.1 (va_up s.2.1 c (s.2.1 c - k)) s.2.2.1 dt with
  | true =>
    rw [if_neg bz1]
    exact ⟨h2, rfl, t2, CF_trans f1 f2⟩
  | false =>
    have e3 : gI h2 (q + 4) c = nI (s.2.1 c - k) := by
      have := (t2.2.2.2.2.1 c hc).1
      dsimp only at this
      rw [up_s] at this
      exact this
    rw [if_pos (show bz false = 0 from rfl), ck_pos (ib_nI (by omega) (by omega)), ck_pos (ib_nI (by omega) (by omega)), lt_def, e3, nI_add, show s.2.1 c - k + k = s.2.1 c by omega]
    refine ⟨_, rfl, ?_, CF_trans f1 (CF_trans f2 (CF_sI T f2.2.2 z4))⟩
    have := CT_S (c := c) (v := s.2.1 c) t2 tc.2
    dsimp only at this
    rw [up_back] at this
    exact this
theorem c_draw {h : MH} (L : lay h) (d : Nat) {q : Nat} (T : tAt q) {n : Nat} {W : Nat → Nat} {s : TS} (t : CT h q n W s) : ∃ h', F_X9_draw (d + 1) q h = some (.int (nI s.2.2.2.1), h') ∧ CT h' q n W (s.1, s.2.1, s.2.2.1, (s.2.2.2.1 * 601 + 467) % 30841, s.2.2.2.2) ∧ CF q h h' := by
  have tx := t.2.2.2.2.2.2.1
  have z0 : q ∈ cZ q := by unfold cZ; simp
  rw [S_X9_draw L d q T, lt_def, tx.1, nIn, nIb, nIr (by omega) (by omega) (by omega)]
  exact ⟨_, rfl, CT_X t (by omega), CF_sI T L z0⟩
theorem c_write {h : MH} (L : lay h) (d : Nat) {q : Nat} (T : tAt q) {n : Nat} {W : Nat → Nat} {s : TS} (t : CT h q n W s) {p f o : Nat} (hp : p < 4) (hf : f ≤ 8) (ho : o ≤ 8) : ∃ h', F_X9_write (d + 1) q (nI p) (nI f) (nI o) h = some (.int 0, h') ∧ CT h' q n W (wrS s p f o) ∧ CF q h h' := by
  have z0 : q ∈ cZ q := by unfold cZ; simp
  have z5 : q + 5 ∈ cZ q := by unfold cZ; simp
  have key : ∀ {k : MH} {wr : Nat} {E : Nat → Int32}, lay k → wr < 30 → CT k q n W (s.1, s.2.1, s.2.2.1, s.2.2.2.1, wr, E) → ∃ h', G_X9_write_15 d q (nI p) (nI f) (nI o) k = some (.int 0, h') ∧ CT h' q n W (s.1, s.2.1, s.2.2.1, s.2.2.2.1, wr + 1, va_up E wr (valE s.2.2.1 p f o)) ∧ CF q k h' := by
    intro k wr E Lk hw tk
    obtain ⟨t0, t1, t2, t3, t4, t5, t6, t7, t8⟩ := tk
    dsimp only at t5 t7 t8
    have tH := t5
    rw [S_X9_write_15 Lk d q T, t7.1, ck_pos (ib_nI (by omega) (by omega)), ix_nI (by omega), lt_def, lt_def, t5.1, nIn, nI_add, nIn, nI_add, nIn, nI_add, gI_sIo _ _ _ q _ (by omega), t7.1, nI_1]
    have c1 := CF_sI (k := wr) (v := nI (((s.2.2.1 * 4 + p) * 9 + f) * 9 + o)) T Lk z5
    refine ⟨_, rfl, ?_, CF_trans c1 (CF_sI T c1.2.2 z0)⟩
    unfold CT
    rw [gI_sIs, gI_sIo _ _ _ (q + 1) _ (by omega), gI_sIo _ _ _ (q + 2) _ (by omega), gI_sIo _ _ _ (q + 4) _ (by omega), gI_sIo _ _ _ (q + 5) _ (by omega), gI_sIs, gI_sIo _ _ _ (q + 1) _ (by omega), gI_sIo _ _ _ (q + 2) _ (by omega), gI_sIo _ _ _ (q + 4) _ (by omega), gI_sIo _ _ _ q _ (by omega), up_o _ _ (by decide), up_o _ _ (by decide), up_o _ _ (by decide), up_s]
    refine ⟨t0, t1, t2, t3, t4, t5, t6, ⟨rfl, by show wr + 1 ≤ 30; omega⟩, fun j hj => ?_⟩
    show va_up (gI k (q + 5)) wr _ j = va_up E wr (valE s.2.2.1 p f o) j
    by_cases e : j = wr
    · subst e; rw [up_s, up_s]; rfl
    · rw [up_o _ _ e, up_o _ _ e]; exact t8 j hj
  have tw := t.2.2.2.2.2.2.2.1
  rw [S_X9_write L d q _ _ _ T, tw.1]
  unfold wrS
  by_cases h30 : s.2.2.2.2.1 < 30
  · rw [if_pos ((nIl (by omega) (by omega)).mpr h30), if_pos h30]
    exact key L h30 t
  · rw [if_neg (fun w => h30 ((nIl (by omega) (by omega)).mp w)), if_neg h30, lt_def, lt_def]
    have c1 := CF_rI (f := va_cpy (gI h (q + 5)) (gI h (q + 5)) 1 0 29) T L z5
    have c2 := CF_sI (k := 8) (v := 29) T c1.2.2 z0
    have t2 : CT (sI (rI h (q + 5) (va_cpy (gI h (q + 5)) (gI h (q + 5)) 1 0 29)) q 8 29) q n W (s.1, s.2.1, s.2.2.1, s.2.2.2.1, 29, va_cpy (gI h (q + 5)) (gI h (q + 5)) 1 0 29) := by
      obtain ⟨t0, t1, t2, t3, t4, t5, t6, t7, t8⟩ := t
      unfold CT
      rw [gI_sIs, gI_sIo _ _ _ (q + 1) _ (by omega), gI_sIo _ _ _ (q + 2) _ (by omega), gI_sIo _ _ _ (q + 4) _ (by omega), gI_sIo _ _ _ (q + 5) _ (by omega), gI_rIs, gI_rI' _ _ _ _ (show ¬ q = q + 5 by omega), gI_rI' _ _ _ _ (show ¬ q + 1 = q + 5 by omega), gI_rI' _ _ _ _ (show ¬ q + 2 = q + 5 by omega), gI_rI' _ _ _ _ (show ¬ q + 4 = q + 5 by omega), up_o _ _ (by decide), up_o _ _ (by decide), up_o _ _ (by decide), up_s]
      exact ⟨t0, t1, t2, t3, t4, t5, t6, ⟨rfl, by show 29 ≤ 30; omega⟩, fun k hk => rfl⟩
    obtain ⟨h', e', t', f'⟩ := key c2.2.2 (by omega) t2
    refine ⟨h', e', ?_, CF_trans c1 (CF_trans c2 f')⟩
    obtain ⟨u0, u1, u2, u3, u4, u5, u6, u7, u8⟩ := t'
    refine ⟨u0, u1, u2, u3, u4, u5, u6, u7, fun j hj => (u8 j hj).trans ?_⟩
    show va_up (va_cpy (gI h (q + 5)) (gI h (q + 5)) 1 0 29) 29 _ j = va_up (fun k => s.2.2.2.2.2 (k + 1)) 29 _ j
    by_cases e : j = 29
    · subst e; rw [up_s, up_s]
    · rw [up_o _ _ e, up_o _ _ e, pk_cpy_in (by omega) (by omega), t.2.2.2.2.2.2.2.2 _ (by omega)]
      rw [show 1 + (j - 0) = j + 1 by omega]
end DEED
