--deps:19.lay 21.facts 22.00.names 22.01.eq 22.02.eq 22.03.eq 22.04.eq 22.05.eq 22.06.eq 22.07.eq 22.08.eq 22.09.eq 22.10.eq 22.11.eq 22.12.eq 22.13.eq 22.14.eq 22.15.eq 22.16.eq 22.17.eq 22.18.eq 22.19.eq 22.20.eq 22.21.eq 22.22.eq 22.23.eq 23.num 24.town 25.evc 26.evm 27.law 28.says 29.inv 66.script 71.yard 72.yard2 73.gx 74.gx2 75.gx3 76.reader 77.read2 78.read3 79.mtok 80.mpile 81.myard 82.msum 83.msum2 84.msum3 85.lexm 86.lexm2 87.lexc 88.cut 89.nums 90.keep 91.clause 92.ctext 93.mclause 94.mclause2
/-! THE REFERENCE READS A TEXT -/
set_option linter.unusedSectionVars false
theorem MD_self (h : MH) : MD h (gI h 67) (gI h 70) (gI h 72) (gL h 67) = h := by
  unfold MD
  rw [rI_self, rI_self, rI_self]
  unfold rL gL
  have : (fun b => if b = 67 then h.2.2.1 67 else h.2.2.1 b) = h.2.2.1 := by
    funext b
    by_cases e : b = 67
    · rw [if_pos e, e]
    · rw [if_neg e]
  rw [this]
/-- the code of all laws up to clause i -/
def mcat (ms : Nat → List (Nat × Nat)) : Nat → List (Nat × Nat)
  | 0 => []
  | i + 1 => mcat ms i ++ ms i
def bAny (K : Nat → Nat) (k : Nat) : Nat → Bool
  | 0 => false
  | i + 1 => bAny K k i || K i == k
theorem bAny_t {K : Nat → Nat} {k : Nat} : ∀ {i : Nat}, bAny K k i = true ↔ ∃ j, j < i ∧ K j = k := by
  intro i
  induction i with
  | zero => exact ⟨fun z => (by cases z), fun ⟨j, hj, _⟩ => (by omega)⟩
  | succ i ih =>
    rw [bAny, Bool.or_eq_true, ih]
    constructor
    · rintro (⟨j, h1, h2⟩ | z)
      · exact ⟨j, by omega, h2⟩
      · exact ⟨i, by omega, by simpa using z⟩
    · rintro ⟨j, h1, h2⟩
      rcases Nat.lt_or_ge j i with z | z
      · exact Or.inl ⟨j, z, h2⟩
      · exact Or.inr (by rw [show i = j by omega]; simpa using h2)
theorem dtS_b {o : Option Den} {n k : Nat} {K : Nat → Nat} {vs : Nat → Den} (d : dtS o n K vs k) : o.isSome = bAny K k n := by
  cases o with
  | none =>
    cases h : bAny K k n with
    | false => rfl
    | true =>
      obtain ⟨j, h1, h2⟩ := bAny_t.mp h
      exact absurd h2 (d j h1)
  | some v =>
    obtain ⟨i, i1, i2, i3⟩ := d
    exact (bAny_t.mpr ⟨i, i1, i2⟩).symm
section MTX
theorem m_cls {h : MH} (L : lay h) {tk : Nat → Nat} {ts : Nat → Nat} {tv : Nat → Nat} {te : Nat → Nat} {T : Nat} {len : Nat} {tx : Nat} (N : NXT h tk ts tv te T len) (hx : tx < 4) (hT : tk T = 259) {a t pl : Nat → Int32} {w : Nat → Int64} {n : Nat} {pos K F S : Nat → Nat} {ms : Nat → List (Nat × Nat)} {vs : Nat → Den} (hn : n ≤ 24) (R : ∀ i, i < n → CLO tk tv (pos i) (pos (i + 1)) (K i) (F i) (S i) (ms i) (vs i) ∧ (K i ≤ 1 → ∀ j, j < i → ¬ K j = K i)) {D : Nat} (hD : 24 ≤ D) (M0 : MCS tk ts tv te T len tx a t w (pos 0) 0 [] K F S ms false false) (o : Option Value) : ∀ i, i ≤ n → ∃ a' t' pl' w' o', G_X11_readText_25 D o (MD h a t pl w) = G_X11_readText_25 D o' (MD h a' t' pl' w') ∧ MCS tk ts tv te T len tx a' t' w' (pos i) i (mcat ms i) K F S ms (bAny K 0 i) (bAny K 1 i) ∧ FRC tx a a' t t' := by
  intro i
  induction i with
  | zero => intro _; exact ⟨a, t, pl, w, o, rfl, M0, FRC_refl _ _ _⟩
  | succ i ih =>
    intro hi
    obtain ⟨a1, t1, pl1, w1, o1, q1, q2, q3⟩ := ih (by omega)
    obtain ⟨O, tw⟩ := R i (by omega)
    have nb : ∀ k, k ≤ 1 → ¬ (K i = k ∧ bAny K k i = true) := fun k hk z => by
      obtain ⟨j, j1, j2⟩ := bAny_t.mp z.2
      exact tw (by omega) j j1 (by omega)
    obtain ⟨a2, t2, pl2, w2, r1, r2, r3⟩ := m_clO L N hx hT (pl := pl1) q2 (by omega) (nb 0 (by omega)) (nb 1 (by omega)) O (D := D) (by omega)
    have n9 : ¬ a1 9 = 0 := fun z => by
      have := (tkn_low q2.2.2.1.1).1.mp z
      have := O.1
      omega
    refine ⟨a2, t2, pl2, w2, some (.int 0), ?_, ?_, FRC_tr q3 r3⟩
    · rw [q1, S_X11_readText_25 (lay_MD L _ _ _ _), gI_MD67, if_neg n9, r1, cI_some, if_pos rfl]
    · obtain ⟨g1, g2, g3, g4, g5, g6⟩ := r2
      refine ⟨g1, g2, g3, g4, g5, fun j hj => ?_⟩
      have := g6 j hj
      rcases Nat.lt_or_ge j i with z | z
      · rw [va_ne _ _ (by omega), va_ne _ _ (by omega), va_ne _ _ (by omega), va_ne _ _ (by omega)] at this
        exact this
      · rw [show j = i by omega] at this ⊢
        rw [va_same, va_same, va_same, va_same] at this
        exact this
/-- the beginning -/
theorem m_rt {h : MH} (L : lay h) {tk : Nat → Nat} {ts : Nat → Nat} {tv : Nat → Nat} {te : Nat → Nat} {T : Nat} {len : Nat} {tx : Nat} (N : NXT h tk ts tv te T len) (hx : tx < 4) (hT : tk T = 259) {a t pl : Nat → Int32} {w : Nat → Int64} {by_ : Nat → Nat} (hl : len ≤ 300) (hT3 : T ≤ 300) (hb : ∀ j, j < 300 → gI h 71 j = nI (by_ j) ∧ by_ j < 256) (Q : TOKQ by_ len tk ts tv te T) (e4 : a 4 = nI len) (e68 : gI h 68 2 = nI tx) (K F S : Nat → Nat) (ms : Nat → List (Nat × Nat)) {D : Nat} (hD : 4 ≤ D) : ∃ a1 w1, F_X11_readText D (MD h a t pl w) = G_X11_readText_25 (D - 1) none (MD h a1 (va_up t (681 * tx) 0) pl w1) ∧ MCS tk ts tv te T len tx a1 (va_up t (681 * tx) 0) w1 0 0 [] K F S ms false false ∧ (∀ k, kpC k → ¬ k = 12 → a1 k = a k) := by
  obtain ⟨d, rfl⟩ : ∃ d, D = d + 1 := ⟨D - 1, by omega⟩
  obtain ⟨q1, q2⟩ := Q 0 (Nat.zero_le _)
  obtain ⟨a1, w1, r1, r2, r3, r4, r5, r6⟩ := m_nxt L hl hb (t := va_up t (681 * tx) 0) (pl := pl) (D := d) (by omega) (w := w) (a := va_up (va_up (va_up (va_up a 12 (nI (681 * tx))) 13 0) 19 0) 7 0) q2 q1 rfl e4
  refine ⟨a1, w1, ?_, ⟨⟨?_, ?_, ?_, ?_⟩, fun j hj => absurd hj (Nat.not_lt_zero j), ⟨r4, r3, r2, r5⟩, ⟨Nat.le_refl _, Nat.zero_le _, hT3, by decide⟩, va_same _ _ _, fun j hj => absurd hj (Nat.not_lt_zero j)⟩, fun k hk h12 => ?_⟩
  · have e12 : va_up a 12 (nI (681 * tx)) 12 = nI (681 * tx) := va_same _ _ _
    rw [S_X11_readText (lay_MD L _ _ _ _), gI_MDo _ _ _ _ _ (by decide) (by decide) (by decide), e68, nIm, sI_MD67, lt_def, gI_MD67, show va_up a 12 (nI ((OfNat.ofNat 681 : Nat) * tx)) 12 = nI (681 * tx) from va_same _ _ _, ck_pos ((ib_nIi (by omega)).mpr (by omega)), ix_nI (by omega), sI_MD70, lt_def, sI_MD67, lt_def, sI_MD67, lt_def, sI_MD67, lt_def]
    rw [show F_X11_nextToken d (MD h (va_up (va_up (va_up (va_up a 12 (nI ((OfNat.ofNat 681 : Nat) * tx))) 13 0) 19 0) 7 0) (va_up t (681 * tx) 0) pl w) = _ from r1, cV_some, Nat.add_sub_cancel]
  · rw [r6 13 (by decide) (by decide) (by decide) (by decide)]; rfl
  · rw [r6 12 (by decide) (by decide) (by decide) (by decide)]; rfl
  · rw [r6 4 (by decide) (by decide) (by decide) (by decide)]; exact e4
  · rw [r6 19 (by decide) (by decide) (by decide) (by decide)]; rfl
  · rw [r6 k hk.1 hk.2.1 hk.2.2.1 hk.2.2.2.1, va_ne _ _ hk.1, va_ne _ _ hk.2.2.2.2.2.2.2.2.2, va_ne _ _ hk.2.2.2.2.1, va_ne _ _ h12]
/-- the whole call, a text that can be read -/
theorem m_txO {h : MH} (L : lay h) {tk : Nat → Nat} {ts : Nat → Nat} {tv : Nat → Nat} {te : Nat → Nat} {T : Nat} {len : Nat} {tx : Nat} (N : NXT h tk ts tv te T len) (hx : tx < 4) (hT : tk T = 259) {by_ : Nat → Nat} (hl : len ≤ 300) (hT3 : T ≤ 300) (hb : ∀ j, j < 300 → gI h 71 j = nI (by_ j) ∧ by_ j < 256) (Q : TOKQ by_ len tk ts tv te T) (e4 : gI h 67 4 = nI len) (e68 : gI h 68 2 = nI tx) {n : Nat} {pos K F S : Nat → Nat} {ms : Nat → List (Nat × Nat)} {vs : Nat → Den} {dt ds : Option Den} (hn : n ≤ 24) (R : CRT tk tv n pos K F S ms vs dt ds) (he : tk (pos n) = 259) {D : Nat} (hD : 27 ≤ D) : ∃ a t pl w, F_X11_text D h = some (.int (nI tx), sI (MD h a t pl w) 68 2 (nI (tx + 1))) ∧ (a 4 = 0 ∧ a 5 = 0 ∧ a 6 = -1 ∧ a 23 = gI h 67 23) ∧ (∀ j, j < 681 * tx ∨ 681 * tx + 681 ≤ j → t j = gI h 70 j) ∧ t (681 * tx) = nI n ∧ (atM t (681 * tx + 73) 0 (mcat ms n) ∧ (mcat ms n).length ≤ 300) ∧ ∀ j, j < n → MRW t tx (mcat ms n) j (K j) (F j) (S j) (ms j) := by
  obtain ⟨d, rfl⟩ : ∃ d, D = d + 1 := ⟨D - 1, by omega⟩
  obtain ⟨a1, w1, r1, r2, r3⟩ := m_rt L N hx hT (t := gI h 70) (pl := gI h 72) (w := gL h 67) hl hT3 hb Q e4 e68 K F S ms (D := d) (by omega)
  rw [MD_self] at r1
  have r2' : MCS tk ts tv te T len tx a1 (va_up (gI h 70) (681 * tx) 0) w1 (pos 0) 0 [] K F S ms false false := by rw [R.1]; exact r2
  obtain ⟨a2, t2, pl2, w2, o2, q1, q2, q3⟩ := m_cls L N hx hT (pl := gI h 72) hn R.2.1 (D := d - 1) (by omega) r2' none n (Nat.le_refl _)
  obtain ⟨g1, g2, g3, g4, g5, g6⟩ := q2
  have z9 : a2 9 = 0 := (tkn_low g3.1).1.mpr he
  have rt : F_X11_readText d h = some (.int 0, MD h a2 t2 pl2 w2) := by
    rw [r1, q1, S_X11_readText_25 (lay_MD L _ _ _ _), gI_MD67, if_pos z9]
  have e68' : ∀ (a t p : Nat → Int32) (w : Nat → Int64), gI (MD h a t p w) 68 2 = nI tx := fun a t p w => by rw [gI_MDo _ _ _ _ _ (by decide) (by decide) (by decide)]; exact e68
  refine ⟨va_up (va_up (va_up a2 5 0) 6 (-1)) 4 0, t2, pl2, w2, ?_, ⟨rfl, rfl, rfl, ?_⟩, fun j hj => ?_, g5, ⟨g2, by omega⟩, g6⟩
  · rw [S_X11_text L, e68, if_neg (by rw [nIe (by omega) (by decide)]; show ¬ tx = 4; omega), rt, cI_some, sI_MD67, lt_def, gI_MD67, if_pos (va_same _ _ _), S_X11_text_20 (lay_MD L _ _ _ _), sI_MD67, lt_def, sI_MD67, lt_def, gI_MD67, if_pos (show va_up (va_up (va_up a2 5 0) 6 (-1)) 4 0 5 = 0 from rfl), e68', nI_1, lt_def, gI_sIe, if_pos rfl, va_same, nI_pred]
  · rw [va_ne _ _ (by decide), va_ne _ _ (by decide), va_ne _ _ (by decide), q3.1 23 (by unfold kpC; decide), r3 23 (by unfold kpC; decide) (by decide)]
  · rw [q3.2 j hj, va_ne _ _ (by omega)]
theorem m_txN {h : MH} (L : lay h) {tk : Nat → Nat} {ts : Nat → Nat} {tv : Nat → Nat} {te : Nat → Nat} {T : Nat} {len : Nat} {tx : Nat} (N : NXT h tk ts tv te T len) (hx : tx < 4) (hT : tk T = 259) {by_ : Nat → Nat} (hl : len ≤ 300) (hT3 : T ≤ 300) (hb : ∀ j, j < 300 → gI h 71 j = nI (by_ j) ∧ by_ j < 256) (Q : TOKQ by_ len tk ts tv te T) (e4 : gI h 67 4 = nI len) (e68 : gI h 68 2 = nI tx) {n fl q : Nat} {pos K F S : Nat → Nat} {ms : Nat → List (Nat × Nat)} {vs : Nat → Den} {dt ds : Option Den} (hn : n ≤ 24) (R : CRT tk tv n pos K F S ms vs dt ds) (hf : 1 ≤ fl ∧ fl ≤ 6) (O : CLN tk tv dt.isSome ds.isSome n (pos n) fl q) (h9 : ¬ tk (pos n) = 259) {D : Nat} (hD : 27 ≤ D) : ∃ a t pl w, F_X11_text D h = some (.int (-1), MD h a t pl w) ∧ (a 4 = 0 ∧ a 5 = nI fl ∧ a 6 = nI (ts q) ∧ a 23 = gI h 67 23) ∧ (∀ j, j < 681 * tx ∨ 681 * tx + 681 ≤ j → t j = gI h 70 j) := by
  obtain ⟨d, rfl⟩ : ∃ d, D = d + 1 := ⟨D - 1, by omega⟩
  obtain ⟨a1, w1, r1, r2, r3⟩ := m_rt L N hx hT (t := gI h 70) (pl := gI h 72) (w := gL h 67) hl hT3 hb Q e4 e68 K F S ms (D := d) (by omega)
  rw [MD_self] at r1
  have r2' : MCS tk ts tv te T len tx a1 (va_up (gI h 70) (681 * tx) 0) w1 (pos 0) 0 [] K F S ms false false := by rw [R.1]; exact r2
  obtain ⟨a2, t2, pl2, w2, o2, q1, q2, q3⟩ := m_cls L N hx hT (pl := gI h 72) hn R.2.1 (D := d - 1) (by omega) r2' none n (Nat.le_refl _)
  rw [dtS_b R.2.2.1, dtS_b R.2.2.2] at O
  obtain ⟨a3, t3, pl3, w3, s1, s2, s3⟩ := m_clN L N hx hT (pl := pl2) q2 hf O (D := d - 1) (by omega)
  have hnz : ¬ nI fl = 0 := by rw [show (0 : Int32) = nI 0 from rfl, nI_eq (by omega) (by omega)]; omega
  have z9 : ¬ a2 9 = 0 := fun z => h9 ((tkn_low q2.2.2.1.1).1.mp z)
  have rt : F_X11_readText d h = some (.int (nI fl), MD h a3 t3 pl3 w3) := by
    rw [r1, q1, S_X11_readText_25 (lay_MD L _ _ _ _), gI_MD67, if_neg z9, s1, cI_some, if_neg hnz]
  refine ⟨va_up (va_up (va_up a3 5 (nI fl)) 6 (nI (ts q))) 4 0, t3, pl3, w3, ?_, ⟨rfl, rfl, rfl, ?_⟩, fun j hj => ?_⟩
  · have e8 : va_up a3 5 (nI fl) 8 = nI (ts q) := s2.2.1
    rw [S_X11_text L, e68, if_neg (by rw [nIe (by omega) (by decide)]; show ¬ tx = 4; omega), rt, cI_some, sI_MD67, lt_def, gI_MD67, if_neg (by rw [va_same]; exact hnz), e8, S_X11_text_20 (lay_MD L _ _ _ _), sI_MD67, lt_def, sI_MD67, lt_def, gI_MD67, if_neg (show ¬ va_up (va_up (va_up a3 5 (nI fl)) 6 (nI (ts q))) 4 0 5 = 0 from hnz)]
  · rw [va_ne _ _ (by decide), va_ne _ _ (by decide), va_ne _ _ (by decide), s3.1 23 (by unfold kpC; decide), q3.1 23 (by unfold kpC; decide), r3 23 (by unfold kpC; decide) (by decide)]
  · rw [s3.2 j hj, q3.2 j hj, va_ne _ _ (by omega)]
end MTX
