--deps:19.lay 21.facts 22.00.names 22.01.eq 22.02.eq 22.03.eq 22.04.eq 22.05.eq 22.06.eq 22.07.eq 22.08.eq 22.09.eq 22.10.eq 22.11.eq 22.12.eq 22.13.eq 22.14.eq 22.15.eq 22.16.eq 22.17.eq 22.18.eq 22.19.eq 22.20.eq 22.21.eq 22.22.eq 22.23.eq 23.num 24.town 25.evc 26.evm 27.law 28.says 29.inv 71.yard 72.yard2 73.gx 74.gx2 75.gx3 76.reader 79.mtok 80.mpile 81.myard
/-! THE REFERENCE'S READER: a step of the yard -/
set_option linter.unusedSectionVars false
def kpY (k : Nat) : Prop := ¬ k = 7 ∧ ¬ k = 8 ∧ ¬ k = 9 ∧ ¬ k = 10 ∧ ¬ k = 13 ∧ ¬ k = 16 ∧ ¬ k = 17 ∧ ¬ k = 18
def FRM (tx : Nat) (a a' t t' : Nat → Int32) : Prop := (∀ k, kpY k → a' k = a k) ∧ (∀ j, j < 681 * tx + 73 ∨ 681 * tx + 681 ≤ j → t' j = t j)
theorem FRM_refl (tx : Nat) (a t : Nat → Int32) : FRM tx a a t t := ⟨fun _ _ => rfl, fun _ _ => rfl⟩
theorem FRM_tr {tx : Nat} {a a' a2 t t' t2 : Nat → Int32} (u : FRM tx a a' t t') (v : FRM tx a' a2 t' t2) : FRM tx a a2 t t2 := ⟨fun k h => (v.1 k h).trans (u.1 k h), fun j hj => (v.2 j hj).trans (u.2 j hj)⟩
theorem FRS_M {tx : Nat} {a a' t t' : Nat → Int32} (u : FRS tx a a' t t') : FRM tx a a' t t' := ⟨fun k h => u.1 k h.2.2.2.2.1 h.2.2.2.2.2.1 h.2.2.2.2.2.2.1, u.2⟩
def NXT (h : MH) (tk ts tv te : Nat → Nat) (T len : Nat) : Prop := ∀ D a t pl w p, 3 ≤ D → p < T → a 4 = nI len → LX tk ts tv te a w p → ∃ a' w', F_X11_nextToken D (MD h a t pl w) = some (.int 0, MD h a' t pl w') ∧ LX tk ts tv te a' w' (p + 1) ∧ ∀ k, ¬ k = 7 → ¬ k = 8 → ¬ k = 9 → ¬ k = 10 → a' k = a k
def YV (tk ts tv te : Nat → Nat) (T len tx : Nat) (sl : Bool) (a t pl : Nat → Int32) (w : Nat → Int64) (s : YS) : Prop := SV tx a t pl s.1 s.2.1 s.2.2.2.2 ∧ (a 18 = (if s.2.2.1 = true then 1 else 0) ∧ (a 14 = 1 ↔ sl = true) ∧ a 4 = nI len) ∧ LX tk ts tv te a w s.2.2.2.1 ∧ (s.2.2.2.2.length + s.1.length ≤ s.2.2.2.1 ∧ s.2.2.2.1 ≤ T ∧ T ≤ 300 ∧ s.2.1 ≤ 8)
theorem LX_eq {tk ts tv te : Nat → Nat} {a a' : Nat → Int32} {w : Nat → Int64} {p : Nat} (X : LX tk ts tv te a w p) (e7 : a' 7 = a 7) (e8 : a' 8 = a 8) (e9 : a' 9 = a 9) (e10 : a' 10 = a 10) : LX tk ts tv te a' w p := by
  unfold LX
  rw [e7, e8, e9, e10]
  exact X
theorem PIL_up {pl : Nat → Int32} {v : Int32} {n : Nat} : ∀ {π : List Nat}, PIL pl π → π.length ≤ n → PIL (va_up pl n v) π := by
  intro π
  induction π with
  | nil => intro _ _; trivial
  | cons k π ih =>
    intro P hl
    simp only [List.length_cons] at hl
    exact ⟨by rw [va_ne _ _ (by omega)]; exact P.1, P.2.1, ih P.2.2 (by omega)⟩
theorem stel_len2 (l : Nat) : ∀ (π : List Nat) (o : Nat) (c : List (Nat × Nat)), (stel l π o c).2.2.length + (stel l π o c).1.length = c.length + π.length ∧ (stel l π o c).2.1 ≤ o := by
  intro π
  induction π with
  | nil => intro o c; exact ⟨rfl, Nat.le_refl _⟩
  | cons k π ih =>
    intro o c
    rw [stel]
    split
    · have := ih (if rk k = 7 ∨ k = 20 then o - 1 else o) (c ++ [(k, 0)])
      rw [List.length_append, List.length_singleton] at this
      rw [List.length_cons]
      have h2 : (if rk k = 7 ∨ k = 20 then o - 1 else o) ≤ o := by split <;> omega
      omega
    · exact ⟨rfl, Nat.le_refl _⟩
def BGN (h : MH) (tk ts tv te : Nat → Nat) (T len tx : Nat) (sl : Bool) (a t pl : Nat → Int32) (w : Nat → Int64) (E : Option (Value × MH)) (r : YS ⊕ Nat) : Prop := (∀ s', r = .inl s' → ∃ a' t' pl' w', E = some (.int 0, MD h a' t' pl' w') ∧ YV tk ts tv te T len tx sl a' t' pl' w' s' ∧ FRM tx a a' t t') ∧ (∀ f, r = .inr f → E = some (.int (nI f), MD h a t pl w) ∧ ¬ f = 0 ∧ f ≤ 5)
theorem BGN_l {h : MH} {tk ts tv te : Nat → Nat} {T len tx : Nat} {sl : Bool} {a t pl : Nat → Int32} {w : Nat → Int64} {E : Option (Value × MH)} {s : YS} {a' t' pl' : Nat → Int32} {w' : Nat → Int64} (e : E = some (.int 0, MD h a' t' pl' w')) (y : YV tk ts tv te T len tx sl a' t' pl' w' s) (f : FRM tx a a' t t') : BGN h tk ts tv te T len tx sl a t pl w E (.inl s) :=
  ⟨fun s' q => (by cases q; exact ⟨a', t', pl', w', e, y, f⟩), fun f q => (by cases q)⟩
theorem BGN_r {h : MH} {tk ts tv te : Nat → Nat} {T len tx : Nat} {sl : Bool} {a t pl : Nat → Int32} {w : Nat → Int64} {f : Nat} (h0 : ¬ f = 0) (h5 : f ≤ 5) : BGN h tk ts tv te T len tx sl a t pl w (some (.int (nI f), MD h a t pl w)) (.inr f) :=
  ⟨fun s' q => (by cases q), fun f' q => (by cases q; exact ⟨rfl, h0, h5⟩)⟩
section MST
theorem m_opnd {h : MH} (L : lay h) {tk : Nat → Nat} {ts : Nat → Nat} {tv : Nat → Nat} {te : Nat → Nat} {T : Nat} {len : Nat} {tx : Nat} {sl : Bool} (N : NXT h tk ts tv te T len) (hx : tx < 4) {k : Nat} (hk : k < 100) (hk2 : rk k = 7 ∨ k = 20 ∨ 40 ≤ k) {D : Nat} (hD : 4 ≤ D) {a t pl : Nat → Int32} {w : Nat → Int64} {π : List Nat} {o p : Nat} {c : List (Nat × Nat)} (Y : YV tk ts tv te T len tx sl a t pl w (π, o, false, p, c)) (hl : π.length ≤ 60) (hp : p < T) (ho : o < 8) : ∃ a' pl' w', F_X11_opened D (nI k) (MD h a t pl w) = some (.int 0, MD h a' t pl' w') ∧ YV tk ts tv te T len tx sl a' t pl' w' (k :: π, o + 1, false, p + 1, c) ∧ FRM tx a a' t t := by
  obtain ⟨d, rfl⟩ : ∃ d, D = d + 1 := ⟨D - 1, by omega⟩
  obtain ⟨⟨⟨e16, e17, e13, e12⟩, P, hat, hcO, b1, b2, b3⟩, ⟨e18, e14, e4⟩, X, b4, b5, b6, b7⟩ := Y
  simp only at e16 e17 e13 e12 P hat hcO b1 b2 b4 b5 b7 X e18
  obtain ⟨a2, w2, r1, r2, r3⟩ := N d (va_up (va_up a 17 (nI (o + 1))) 16 (nI (π.length + 1))) t (va_up pl π.length (nI k)) w p (by omega) hp e4 (LX_eq X rfl rfl rfl rfl)
  refine ⟨a2, _, w2, ?_, ⟨⟨⟨?_, ?_, ?_, ?_⟩, ⟨va_same _ _ _, hk, PIL_up P (Nat.le_refl _)⟩, hat, ?_, ?_, ?_, b3⟩, ⟨?_, ?_, ?_⟩, r2, ?_, ?_, b6, ?_⟩, fun j hj => ?_, fun _ _ => rfl⟩
  · have e17' : va_up a 17 (nI (o + 1)) 16 = nI π.length := e16
    rw [S_X11_opened (lay_MD L _ _ _ _), gI_MD67, e17, if_neg (by rw [nIe (by omega) (by decide)]; show ¬ o = 8; omega), nI_1, sI_MD67, lt_def, gI_MD67, e17', ck_pos ((ib_nIi (by omega)).mpr (by omega)), ix_nI (by omega), sI_MD72, lt_def, gI_MD67, e17', nI_1, sI_MD67, lt_def, r1, cV_some]
  · rw [r3 16 (by decide) (by decide) (by decide) (by decide)]; exact va_same _ _ _
  · rw [r3 17 (by decide) (by decide) (by decide) (by decide)]; rfl
  · rw [r3 13 (by decide) (by decide) (by decide) (by decide)]; exact e13
  · rw [r3 12 (by decide) (by decide) (by decide) (by decide)]; exact e12
  · show o + 1 = cO (k :: π)
    rw [cO, if_pos hk2, ← hcO, Nat.add_comm]
  · show c.length + (k :: π).length ≤ 300
    rw [List.length_cons]; omega
  · show (k :: π).length ≤ 160
    rw [List.length_cons]; omega
  · rw [r3 18 (by decide) (by decide) (by decide) (by decide)]; exact e18
  · rw [r3 14 (by decide) (by decide) (by decide) (by decide)]; exact e14
  · rw [r3 4 (by decide) (by decide) (by decide) (by decide)]; exact e4
  · show c.length + (k :: π).length ≤ p + 1
    rw [List.length_cons]; omega
  · show p + 1 ≤ T
    omega
  · show o + 1 ≤ 8
    omega
  · rw [r3 j hj.1 hj.2.1 hj.2.2.1 hj.2.2.2.1, va_ne _ _ hj.2.2.2.2.2.1, va_ne _ _ hj.2.2.2.2.2.2.1]
theorem m_opnd8 {h : MH} (L : lay h) {tk : Nat → Nat} {ts : Nat → Nat} {tv : Nat → Nat} {te : Nat → Nat} {T : Nat} {len : Nat} {tx : Nat} {sl : Bool} (N : NXT h tk ts tv te T len) (hx : tx < 4) (k : Int32) {D : Nat} (hD : 1 ≤ D) {a t pl : Nat → Int32} {w : Nat → Int64} {π : List Nat} {o p : Nat} {c : List (Nat × Nat)} (Y : YV tk ts tv te T len tx sl a t pl w (π, o, false, p, c)) (ho : 8 ≤ o) : F_X11_opened D k (MD h a t pl w) = some (.int 3, MD h a t pl w) := by
  obtain ⟨d, rfl⟩ : ∃ d, D = d + 1 := ⟨D - 1, by omega⟩
  have e17 : a 17 = nI o := Y.1.1.2.1
  have b7 : o ≤ 8 := Y.2.2.2.2.2.2
  rw [S_X11_opened (lay_MD L _ _ _ _), gI_MD67, e17, if_pos (by rw [show o = 8 by omega]; rfl)]
/-- settle behind a change of the row -/
theorem m_lit {h : MH} (L : lay h) {tk : Nat → Nat} {ts : Nat → Nat} {tv : Nat → Nat} {te : Nat → Nat} {T : Nat} {len : Nat} {tx : Nat} {sl : Bool} (N : NXT h tk ts tv te T len) (hx : tx < 4) (x y : Nat) {D : Nat} (hD : 4 ≤ D) {a t pl : Nat → Int32} {w : Nat → Int64} {π : List Nat} {o p : Nat} {c : List (Nat × Nat)} (Y : YV tk ts tv te T len tx sl a t pl w (π, o, false, p, c)) (hp : p < T) (l1 : Int32) : ∃ a' t' w', G_X11_beginOne_44 D l1 (nI y) (nI x) (MD h a t pl w) = some (.int 0, MD h a' t' pl w') ∧ YV tk ts tv te T len tx sl a' t' pl w' (fin7 π o (c ++ [(x, y)]) (p + 1)) ∧ FRM tx a a' t t' := by
  obtain ⟨⟨⟨e16, e17, e13, e12⟩, P, hat, hcO, b1, b2, b3⟩, ⟨e18, e14, e4⟩, X, b4, b5, b6, b7⟩ := Y
  simp only at e16 e17 e13 e12 P hat hcO b1 b2 b4 b5 b7 X e18
  obtain ⟨a2, w2, r1, r2, r3⟩ := N D (va_up a 13 (nI (c.length + 1))) (va_up (va_up t (681 * tx + 73 + 2 * c.length) (nI x)) (681 * tx + 73 + 2 * c.length + 1) (nI y)) pl w p (by omega) hp e4 (LX_eq X rfl rfl rfl rfl)
  have v : ∀ k, ¬ k = 7 → ¬ k = 8 → ¬ k = 9 → ¬ k = 10 → ¬ k = 13 → ¬ k = 18 → va_up a2 18 1 k = a k := fun k k1 k2 k3 k4 k5 k6 => by rw [va_ne _ _ k6, r3 k k1 k2 k3 k4, va_ne _ _ k5]
  have hlen : (c ++ [(x, y)]).length = c.length + 1 := by rw [List.length_append]; rfl
  have S' : SV tx (va_up a2 18 1) (va_up (va_up t (681 * tx + 73 + 2 * c.length) (nI x)) (681 * tx + 73 + 2 * c.length + 1) (nI y)) pl π o (c ++ [(x, y)]) := by
    refine ⟨⟨?_, ?_, ?_, ?_⟩, P, atM_snoc hat, hcO, by omega, b2, b3⟩
    · rw [v 16 (by decide) (by decide) (by decide) (by decide) (by decide) (by decide)]; exact e16
    · rw [v 17 (by decide) (by decide) (by decide) (by decide) (by decide) (by decide)]; exact e17
    · rw [va_ne _ _ (by decide), r3 13 (by decide) (by decide) (by decide) (by decide), va_same, hlen]
    · rw [v 12 (by decide) (by decide) (by decide) (by decide) (by decide) (by decide)]; exact e12
  obtain ⟨a3, t3, s1, s2, s3⟩ := m_settl L hx (w := w2) S' (D := D) (l := 7) (by omega) (by omega) (by omega)
  have sl2 := stel_len2 7 π o (c ++ [(x, y)])
  refine ⟨a3, t3, w2, ?_, ⟨s2, ⟨?_, ?_, ?_⟩, LX_eq r2 ?_ ?_ ?_ ?_, ?_, ?_, b6, ?_⟩, ?_⟩
  · rw [S_X11_beginOne_44 (lay_MD L _ _ _ _), m_emt L hx (by omega) e12 e13 (by omega), cV_some, r1, cV_some, sI_MD67, lt_def, show (7 : Int32) = nI 7 from rfl, s1, cV_some]
  · rw [s3.1 18 (by decide) (by decide) (by decide), va_same]; rfl
  · rw [s3.1 14 (by decide) (by decide) (by decide), v 14 (by decide) (by decide) (by decide) (by decide) (by decide) (by decide)]; exact e14
  · rw [s3.1 4 (by decide) (by decide) (by decide), v 4 (by decide) (by decide) (by decide) (by decide) (by decide) (by decide)]; exact e4
  · rw [s3.1 7 (by decide) (by decide) (by decide)]; rfl
  · rw [s3.1 8 (by decide) (by decide) (by decide)]; rfl
  · rw [s3.1 9 (by decide) (by decide) (by decide)]; rfl
  · rw [s3.1 10 (by decide) (by decide) (by decide)]; rfl
  · show (stel 7 π o (c ++ [(x, y)])).2.2.length + (stel 7 π o (c ++ [(x, y)])).1.length ≤ p + 1
    omega
  · show p + 1 ≤ T
    omega
  · show (stel 7 π o (c ++ [(x, y)])).2.1 ≤ 8
    omega
  · refine FRM_tr (a' := va_up a2 18 1) (t' := va_up (va_up t (681 * tx + 73 + 2 * c.length) (nI x)) (681 * tx + 73 + 2 * c.length + 1) (nI y)) ⟨fun k hk => v k hk.1 hk.2.1 hk.2.2.1 hk.2.2.2.1 hk.2.2.2.2.1 hk.2.2.2.2.2.2.2, fun j hj => ?_⟩ (FRS_M s3)
    rw [va_ne _ _ (by omega), va_ne _ _ (by omega)]
theorem m_begin {h : MH} (L : lay h) {tk : Nat → Nat} {ts : Nat → Nat} {tv : Nat → Nat} {te : Nat → Nat} {T : Nat} {len : Nat} {tx : Nat} {sl : Bool} (N : NXT h tk ts tv te T len) (hx : tx < 4) (hT : tk T = 259) {D : Nat} (hD : 12 ≤ D) {a t pl : Nat → Int32} {w : Nat → Int64} {π : List Nat} {o p : Nat} {c : List (Nat × Nat)} (Y : YV tk ts tv te T len tx sl a t pl w (π, o, false, p, c)) (hl : π.length ≤ 60) : BGN h tk ts tv te T len tx sl a t pl w (F_X11_beginOne D (MD h a t pl w)) (ynx tk tv sl (π, o, false, p, c)) := by
  obtain ⟨d, rfl⟩ : ∃ d, D = d + 1 := ⟨D - 1, by omega⟩
  have X : LX tk ts tv te a w p := Y.2.2.1
  have P : PIL pl π := Y.1.2.1
  have e16 : a 16 = nI π.length := Y.1.1.1
  have e14 : a 14 = 1 ↔ sl = true := Y.2.1.2.1
  have hpT : p ≤ T := Y.2.2.2.2.1
  have hlt : ¬ tk p = 259 → p < T := fun z => by
    rcases Nat.lt_or_ge p T with q | q
    · exact q
    · have : p = T := by omega
      subst this
      exact absurd hT z
  have lo := tkn_low X.1
  have s40 : a 9 = 40 ↔ tk p = 40 := tkn_sgn X.1 (s := 40) (by decide)
  have s45 : a 9 = 45 ↔ tk p = 45 := tkn_sgn X.1 (s := 45) (by decide)
  have LM := lay_MD L a t pl w
  by_cases c0 : tk p = 258
  · obtain ⟨x, x1, x2, x3⟩ := X.2.2.2 c0
    by_cases c1 : x ≤ 9999
    · have e1 : tv p = x := by omega
      have ey : ynx tk tv sl (π, o, false, p, c) = .inl (fin7 π o (c ++ [(0, x)]) (p + 1)) := by
        unfold ynx
        simp only
        rw [if_neg (by simp), if_pos c0, if_pos (by omega), e1]
      have n1 : (if 307 ≤ tk p ∧ tk p ≤ 313 then nI (tk p - 307) else -1) = (-1 : Int32) := if_neg (by omega)
      have ee : F_X11_beginOne (d + 1) (MD h a t pl w) = G_X11_beginOne_44 d (-1) (nI x) (nI 0) (MD h a t pl w) := by
        rw [S_X11_beginOne LM, gI_MD67, if_pos (lo.2.1.mpr c0), x1, if_pos (by rw [nIL (by omega) (by decide)]; exact c1), S_X11_beginOne_10 LM, m_nmof L X (by omega), n1, cI_some, if_pos (by decide), S_X11_beginOne_22 LM, gI_MD67, if_pos (lo.2.1.mpr c0), S_X11_beginOne_28 LM, gI_MD67, if_pos (lo.2.1.mpr c0), S_X11_beginOne_36 LM, gI_MD67, if_pos (lo.2.1.mpr c0), x1]
        rfl
      obtain ⟨a', t', w', r1, r2, r3⟩ := m_lit L N hx (sl := sl) 0 x (D := d) (by omega) Y (hlt (by omega)) (-1)
      rw [ey, ee]
      exact BGN_l r1 r2 r3
    · have ey : ynx tk tv sl (π, o, false, p, c) = .inr 2 := by
        unfold ynx
        simp only
        rw [if_neg (by simp), if_pos c0, if_neg (by omega)]
      have ee : F_X11_beginOne (d + 1) (MD h a t pl w) = some (.int (nI 2), MD h a t pl w) := by
        rw [S_X11_beginOne LM, gI_MD67, if_pos (lo.2.1.mpr c0), x1, if_neg (by rw [nIL (by omega) (by decide)]; exact c1)]
        rfl
      rw [ey, ee]
      exact BGN_r (by decide) (by decide)
  have n9 : ¬ a 9 = 1 := fun z => c0 (lo.2.1.mp z)
  have ee0 : F_X11_beginOne (d + 1) (MD h a t pl w) = G_X11_beginOne_10 d (MD h a t pl w) := by
    rw [S_X11_beginOne LM, gI_MD67, if_neg n9]
  by_cases c1 : 307 ≤ tk p ∧ tk p ≤ 313
  · have ee1 : F_X11_beginOne (d + 1) (MD h a t pl w) = if nI (tk p - 307) ≤ 3 then G_X11_beginOne_22 d (nI (tk p - 307)) (MD h a t pl w) else if a 14 = 1 then G_X11_beginOne_22 d (nI (tk p - 307)) (MD h a t pl w) else some (.int 5, MD h a t pl w) := by
      rw [ee0, S_X11_beginOne_10 LM, m_nmof L X (by omega), if_pos c1, cI_some, gI_MD67]
    have e22 : G_X11_beginOne_22 d (nI (tk p - 307)) (MD h a t pl w) = G_X11_beginOne_44 d (nI (tk p - 307)) (nI (tk p - 307)) (nI 1) (MD h a t pl w) := by
      rw [S_X11_beginOne_22 LM, gI_MD67, if_neg n9, if_neg (nIz (by omega)), S_X11_beginOne_28 LM, gI_MD67, if_neg n9, S_X11_beginOne_36 LM, gI_MD67, if_neg n9]
      rfl
    by_cases c2 : tk p < 311 ∨ sl = true
    · have ey : ynx tk tv sl (π, o, false, p, c) = .inl (fin7 π o (c ++ [(1, tk p - 307)]) (p + 1)) := by
        unfold ynx
        simp only
        rw [if_neg (by simp), if_neg c0, if_pos c1, if_pos c2]
      have ee : F_X11_beginOne (d + 1) (MD h a t pl w) = G_X11_beginOne_44 d (nI (tk p - 307)) (nI (tk p - 307)) (nI 1) (MD h a t pl w) := by
        rw [ee1, ← e22]
        by_cases c3 : tk p < 311
        · rw [if_pos (by rw [nIL (by omega) (by decide)]; show tk p - 307 ≤ 3; omega)]
        · rw [if_neg (by rw [nIL (by omega) (by decide)]; show ¬ tk p - 307 ≤ 3; omega), if_pos (e14.mpr (c2.resolve_left c3))]
      obtain ⟨a', t', w', r1, r2, r3⟩ := m_lit L N hx (sl := sl) 1 (tk p - 307) (D := d) (by omega) Y (hlt (by omega)) (nI (tk p - 307))
      rw [ey, ee]
      exact BGN_l r1 r2 r3
    · have ey : ynx tk tv sl (π, o, false, p, c) = .inr 5 := by
        unfold ynx
        simp only
        rw [if_neg (by simp), if_neg c0, if_pos c1, if_neg c2]
      have ee : F_X11_beginOne (d + 1) (MD h a t pl w) = some (.int (nI 5), MD h a t pl w) := by
        rw [ee1, if_neg (by rw [nIL (by omega) (by decide)]; show ¬ tk p - 307 ≤ 3; omega), if_neg (fun z => c2 (Or.inr (e14.mp z)))]
        rfl
      rw [ey, ee]
      exact BGN_r (by decide) (by decide)
  have ee1 := S_X11_beginOne_22 LM d (-1)
  rw [gI_MD67, if_neg n9, if_pos (by decide)] at ee1
  have ee2 : F_X11_beginOne (d + 1) (MD h a t pl w) = G_X11_beginOne_22 d (-1) (MD h a t pl w) := by
    rw [ee0, S_X11_beginOne_10 LM, m_nmof L X (by omega), if_neg c1, cI_some, if_pos (by decide)]
  rw [ee2, ee1]
  clear ee1 ee2 ee0
  have op : ∀ k, k < 100 → (rk k = 7 ∨ k = 20 ∨ 40 ≤ k) → ¬ tk p = 259 → BGN h tk ts tv te T len tx sl a t pl w (cI (F_X11_opened d (nI k) (MD h a t pl w)) (fun x4 h3 => some (Value.int x4, h3))) (if 8 ≤ o then Sum.inr 3 else Sum.inl (k :: π, o + 1, false, p + 1, c)) := by
    intro k hk hk2 hz
    by_cases c3 : 8 ≤ o
    · rw [if_pos c3, m_opnd8 L N hx (nI k) (by omega) Y c3, cI_some]
      exact BGN_r (f := 3) (by decide) (by decide)
    · obtain ⟨a', pl', w', r1, r2, r3⟩ := m_opnd L N hx hk hk2 (D := d) (by omega) Y hl (hlt hz) (by omega)
      rw [if_neg c3, r1, cI_some]
      exact BGN_l rfl r2 r3
  have ey : ¬ uo (tk p) = 0 → ynx tk tv sl (π, o, false, p, c) = if 8 ≤ o then Sum.inr 3 else Sum.inl (uo (tk p) :: π, o + 1, false, p + 1, c) := by
    intro z
    unfold ynx
    simp only
    rw [if_neg (by simp), if_neg c0, if_neg c1, if_pos z]
  by_cases d1 : tk p = 40
  · rw [if_pos (s40.mpr d1), ey (by rw [d1]; decide), d1]
    exact op 40 (by decide) (by decide) (by omega)
  rw [if_neg (fun z => d1 (s40.mp z))]
  by_cases d2 : tk p = 45
  · rw [if_pos (s45.mpr d2), ey (by rw [d2]; decide), d2]
    exact op 5 (by decide) (by decide) (by omega)
  rw [if_neg (fun z => d2 (s45.mp z)), m_W15 LM (by omega), cL_some, m_isw L X (by omega) (by decide), cI_some]
  by_cases d3 : tk p = 315
  · rw [if_pos (show tk p = 300 + 15 from d3), if_neg (show ¬ (1 : Int32) = 0 by decide), ey (by rw [d3]; decide), d3]
    exact op 4 (by decide) (by decide) (by omega)
  rw [if_neg (show ¬ tk p = 300 + 15 from d3), if_pos (show (0 : Int32) = 0 from rfl), m_W16 LM (by omega), cL_some, m_isw L X (by omega) (by decide), cI_some]
  by_cases d4 : tk p = 316
  · rw [if_pos (show tk p = 300 + 16 from d4), if_neg (show ¬ (1 : Int32) = 0 by decide), ey (by rw [d4]; decide), d4]
    exact op 2 (by decide) (by decide) (by omega)
  rw [if_neg (show ¬ tk p = 300 + 16 from d4), if_pos (show (0 : Int32) = 0 from rfl), m_W17 LM (by omega), cL_some, m_isw L X (by omega) (by decide), cI_some]
  by_cases d5 : tk p = 317
  · rw [if_pos (show tk p = 300 + 17 from d5), if_neg (show ¬ (1 : Int32) = 0 by decide), ey (by rw [d5]; decide), d5]
    exact op 41 (by decide) (by decide) (by omega)
  rw [if_neg (show ¬ tk p = 300 + 17 from d5), if_pos (show (0 : Int32) = 0 from rfl), m_W23 LM (by omega), cL_some, m_isw L X (by omega) (by decide), cI_some]
  have u0 : uo (tk p) = 0 := by
    unfold uo
    rw [if_neg d1, if_neg d2, if_neg d3, if_neg d4, if_neg d5]
  have ez : ynx tk tv sl (π, o, false, p, c) = @ite _ (tk p = 323 ∧ aah π) (mcD _) (if 8 ≤ o then .inr 3 else .inl (20 :: π, o + 1, false, p + 1, c)) (.inr 1) := by
    unfold ynx
    simp only
    rw [if_neg (by simp), if_neg c0, if_neg c1, if_neg (fun z => z u0)]
  by_cases d6 : tk p = 323
  · rw [if_pos (show tk p = 300 + 23 from d6), if_neg (show ¬ (1 : Int32) = 0 by decide)]
    by_cases d7 : aah π
    · rw [m_aahY L P (by omega) e16 (by omega) d7, cI_some, if_neg (show ¬ (1 : Int32) = 0 by decide), ez, if_pos ⟨d6, d7⟩]
      exact op 20 (by decide) (by decide) (by omega)
    · rw [m_aahN L P (by omega) e16 (by omega) d7, cI_some, if_pos (show (0 : Int32) = 0 from rfl), ez, if_neg (fun z => d7 z.2)]
      exact BGN_r (f := 1) (by decide) (by decide)
  · rw [if_neg (show ¬ tk p = 300 + 23 from d6), if_pos (show (0 : Int32) = 0 from rfl), ez, if_neg (fun z => d6 z.1)]
    exact BGN_r (f := 1) (by decide) (by decide)
end MST
