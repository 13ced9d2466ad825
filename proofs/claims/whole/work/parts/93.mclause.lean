--deps:19.lay 21.facts 22.00.names 22.01.eq 22.02.eq 22.03.eq 22.04.eq 22.05.eq 22.06.eq 22.07.eq 22.08.eq 22.09.eq 22.10.eq 22.11.eq 22.12.eq 22.13.eq 22.14.eq 22.15.eq 22.16.eq 22.17.eq 22.18.eq 22.19.eq 22.20.eq 22.21.eq 22.22.eq 22.23.eq 23.num 24.town 25.evc 26.evm 27.law 28.says 29.inv 66.script 71.yard 72.yard2 73.gx 74.gx2 75.gx3 76.reader 77.read2 79.mtok 80.mpile 81.myard 82.msum 83.msum2 84.msum3 89.nums 90.keep 91.clause
/-! THE REFERENCE READS A CLAUSE -/
set_option linter.unusedSectionVars false
def kpC (k : Nat) : Prop := ¬ k = 7 ∧ ¬ k = 8 ∧ ¬ k = 9 ∧ ¬ k = 10 ∧ ¬ k = 13 ∧ ¬ k = 14 ∧ ¬ k = 16 ∧ ¬ k = 17 ∧ ¬ k = 18 ∧ ¬ k = 19
def FRC (tx : Nat) (a a' t t' : Nat → Int32) : Prop := (∀ k, kpC k → a' k = a k) ∧ (∀ j, j < 681 * tx ∨ 681 * tx + 681 ≤ j → t' j = t j)
theorem FRC_refl (tx : Nat) (a t : Nat → Int32) : FRC tx a a t t := ⟨fun _ _ => rfl, fun _ _ => rfl⟩
theorem FRC_tr {tx : Nat} {a a' a2 t t' t2 : Nat → Int32} (u : FRC tx a a' t t') (v : FRC tx a' a2 t' t2) : FRC tx a a2 t t2 := ⟨fun k h => (v.1 k h).trans (u.1 k h), fun j hj => (v.2 j hj).trans (u.2 j hj)⟩
theorem FRM_C {tx : Nat} {a a' t t' : Nat → Int32} (u : FRM tx a a' t t') : FRC tx a a' t t' := ⟨fun k h => u.1 k ⟨h.1, h.2.1, h.2.2.1, h.2.2.2.1, h.2.2.2.2.1, h.2.2.2.2.2.2.1, h.2.2.2.2.2.2.2.1, h.2.2.2.2.2.2.2.2.1⟩, fun j hj => u.2 j (by omega)⟩
section MCL
theorem lt_TT {h : MH} (L : lay h) {tk : Nat → Nat} {ts : Nat → Nat} {tv : Nat → Nat} {te : Nat → Nat} {T : Nat} {len : Nat} {tx : Nat} (N : NXT h tk ts tv te T len) (hx : tx < 4) (hT : tk T = 259) {p : Nat} (hp : p ≤ T) (h9 : ¬ tk p = 259) : p < T := by
  rcases Nat.lt_or_ge p T with q | q
  · exact q
  · have : p = T := by omega
    subst this
    exact absurd hT h9
theorem m_sort {h : MH} (L : lay h) {tk : Nat → Nat} {ts : Nat → Nat} {tv : Nat → Nat} {te : Nat → Nat} {T : Nat} {len : Nat} {tx : Nat} (N : NXT h tk ts tv te T len) (hx : tx < 4) (hT : tk T = 259) {a t pl : Nat → Int32} {w : Nat → Int64} {p : Nat} (X : LX tk ts tv te a w p) {D : Nat} (hD : 8 ≤ D) : F_X11_sortOf D (MD h a t pl w) = some (.int (if 300 ≤ tk p ∧ tk p ≤ 307 then nI (tk p - 300) else -1), MD h a t pl w) := by
  obtain ⟨d, rfl⟩ : ∃ d, D = d + 1 := ⟨D - 1, by omega⟩
  have LM := lay_MD L a t pl w
  have one : ¬ (1 : Int32) = 0 := by decide
  rw [S_X11_sortOf LM, m_W0 LM (by omega), cL_some, m_isw L X (by omega) (by decide), cI_some]
  by_cases c0 : tk p = 300
  · rw [if_pos (show tk p = 300 + 0 from c0), if_neg one, if_pos (by omega), c0]; rfl
  rw [if_neg (show ¬ tk p = 300 + 0 from c0), if_pos rfl, m_W1 LM (by omega), cL_some, m_isw L X (by omega) (by decide), cI_some]
  by_cases c1 : tk p = 301
  · rw [if_pos (show tk p = 300 + 1 from c1), if_neg one, if_pos (by omega), c1]; rfl
  rw [if_neg (show ¬ tk p = 300 + 1 from c1), if_pos rfl, m_W2 LM (by omega), cL_some, m_isw L X (by omega) (by decide), cI_some]
  by_cases c2 : tk p = 302
  · rw [if_pos (show tk p = 300 + 2 from c2), if_neg one, if_pos (by omega), c2]; rfl
  rw [if_neg (show ¬ tk p = 300 + 2 from c2), if_pos rfl, m_W3 LM (by omega), cL_some, m_isw L X (by omega) (by decide), cI_some]
  by_cases c3 : tk p = 303
  · rw [if_pos (show tk p = 300 + 3 from c3), if_neg one, if_pos (by omega), c3]; rfl
  rw [if_neg (show ¬ tk p = 300 + 3 from c3), if_pos rfl, m_W4 LM (by omega), cL_some, m_isw L X (by omega) (by decide), cI_some]
  by_cases c4 : tk p = 304
  · rw [if_pos (show tk p = 300 + 4 from c4), if_neg one, if_pos (by omega), c4]; rfl
  rw [if_neg (show ¬ tk p = 300 + 4 from c4), if_pos rfl, m_W5 LM (by omega), cL_some, m_isw L X (by omega) (by decide), cI_some]
  by_cases c5 : tk p = 305
  · rw [if_pos (show tk p = 300 + 5 from c5), if_neg one, if_pos (by omega), c5]; rfl
  rw [if_neg (show ¬ tk p = 300 + 5 from c5), if_pos rfl, m_W6 LM (by omega), cL_some, m_isw L X (by omega) (by decide), cI_some]
  by_cases c6 : tk p = 306
  · rw [if_pos (show tk p = 300 + 6 from c6), if_neg one, if_pos (by omega), c6]; rfl
  rw [if_neg (show ¬ tk p = 300 + 6 from c6), if_pos rfl, m_W7 LM (by omega), cL_some, m_isw L X (by omega) (by decide), cI_some]
  by_cases c7 : tk p = 307
  · rw [if_pos (show tk p = 300 + 7 from c7), if_neg one, if_pos (by omega), c7]; rfl
  rw [if_neg (show ¬ tk p = 300 + 7 from c7), if_pos rfl, if_neg (by omega)]
theorem m_fgO {h : MH} (L : lay h) {tk : Nat → Nat} {ts : Nat → Nat} {tv : Nat → Nat} {te : Nat → Nat} {T : Nat} {len : Nat} {tx : Nat} (N : NXT h tk ts tv te T len) (hx : tx < 4) (hT : tk T = 259) {a t pl : Nat → Int32} {w : Nat → Int64} {p x lo hi : Nat} (X : LX tk ts tv te a w p) (e4 : a 4 = nI len) (hp : p ≤ T) {D : Nat} (hD : 4 ≤ D) (hx2 : x < 2724) (hhi : hi < 1000) (ht : tk p = 258) (hr : lo ≤ tv p ∧ tv p ≤ hi) : ∃ a' w', F_X11_figure D (nI x) (nI lo) (nI hi) (MD h a t pl w) = some (.int 0, MD h a' (va_up t x (nI (tv p))) pl w') ∧ LX tk ts tv te a' w' (p + 1) ∧ p + 1 ≤ T ∧ ∀ k, ¬ k = 7 → ¬ k = 8 → ¬ k = 9 → ¬ k = 10 → a' k = a k := by
  obtain ⟨d, rfl⟩ : ∃ d, D = d + 1 := ⟨D - 1, by omega⟩
  have LM := lay_MD L a t pl w
  obtain ⟨y, y1, y2, y3⟩ := X.2.2.2 ht
  have hy : tv p = y := by omega
  have hlt := lt_TT L N hx hT hp (by omega)
  obtain ⟨a', w', r1, r2, r3⟩ := N d a (va_up t x (nI (tv p))) pl w p (by omega) hlt e4 X
  obtain ⟨d, rfl⟩ : ∃ d', d = d' + 1 := ⟨d - 1, by omega⟩
  refine ⟨a', w', ?_, r2, by omega, r3⟩
  rw [S_X11_figure LM, gI_MD67, if_pos ((tkn_low X.1).2.1.mpr ht), y1, S_X11_isIn LM, if_neg (by rw [nI_ltI (by omega) (by omega)]; omega), if_pos (by rw [nI_leI (by omega) (by omega)]; omega), cI_some, if_neg (by decide), ck_pos ((ib_nIi (by omega)).mpr hx2), ix_nI (by omega), gI_MD67, y1, sI_MD70, lt_def, ← hy, r1, cV_some]
theorem m_fgB {h : MH} (L : lay h) {tk : Nat → Nat} {ts : Nat → Nat} {tv : Nat → Nat} {te : Nat → Nat} {T : Nat} {len : Nat} {tx : Nat} (N : NXT h tk ts tv te T len) (hx : tx < 4) (hT : tk T = 259) {a t pl : Nat → Int32} {w : Nat → Int64} {p : Nat} {x lo hi : Int32} (X : LX tk ts tv te a w p) {D : Nat} (hD : 1 ≤ D) (ht : ¬ tk p = 258) : F_X11_figure D x lo hi (MD h a t pl w) = some (.int (nI 1), MD h a t pl w) := by
  obtain ⟨d, rfl⟩ : ∃ d, D = d + 1 := ⟨D - 1, by omega⟩
  rw [S_X11_figure (lay_MD L _ _ _ _), gI_MD67, if_neg (fun z => ht ((tkn_low X.1).2.1.mp z))]
  rfl
theorem m_fgR {h : MH} (L : lay h) {tk : Nat → Nat} {ts : Nat → Nat} {tv : Nat → Nat} {te : Nat → Nat} {T : Nat} {len : Nat} {tx : Nat} (N : NXT h tk ts tv te T len) (hx : tx < 4) (hT : tk T = 259) {a t pl : Nat → Int32} {w : Nat → Int64} {p lo hi : Nat} {x : Int32} (X : LX tk ts tv te a w p) {D : Nat} (hD : 2 ≤ D) (hlo : lo < 1000) (hhi : hi < 1000) (ht : tk p = 258) (hr : ¬ (lo ≤ tv p ∧ tv p ≤ hi)) : F_X11_figure D x (nI lo) (nI hi) (MD h a t pl w) = some (.int (nI 2), MD h a t pl w) := by
  obtain ⟨d, rfl⟩ : ∃ d, D = d + 2 := ⟨D - 2, by omega⟩
  have LM := lay_MD L a t pl w
  obtain ⟨y, y1, y2, y3⟩ := X.2.2.2 ht
  have ew : (if nI y < nI lo then some (Value.int 0, MD h a t pl w) else if nI y ≤ nI hi then some (Value.int 1, MD h a t pl w) else some (Value.int 0, MD h a t pl w)) = some (Value.int 0, MD h a t pl w) := by
    by_cases q : y < lo
    · rw [if_pos (by rw [nI_ltI (by omega) (by omega)]; exact q)]
    · rw [if_neg (by rw [nI_ltI (by omega) (by omega)]; exact q), if_neg (by rw [nI_leI (by omega) (by omega)]; omega)]
  rw [S_X11_figure LM, gI_MD67, if_pos ((tkn_low X.1).2.1.mpr ht), y1, S_X11_isIn LM, ew, cI_some, if_pos rfl]
  rfl
/-- a number, at, a place -/
theorem m_atO {h : MH} (L : lay h) {tk : Nat → Nat} {ts : Nat → Nat} {tv : Nat → Nat} {te : Nat → Nat} {T : Nat} {len : Nat} {tx : Nat} (N : NXT h tk ts tv te T len) (hx : tx < 4) (hT : tk T = 259) {a t pl : Nat → Int32} {w : Nat → Int64} {p x lo hi S : Nat} (X : LX tk ts tv te a w p) (e4 : a 4 = nI len) (hp : p ≤ T) {D : Nat} (hD : 9 ≤ D) (hx2 : x + 2 < 2724) (hhi : hi < 1000) (ht : tk p = 258) (hr : lo ≤ tv p ∧ tv p ≤ hi) (t1 : tk (p + 1) = 314) (t2 : tk (p + 2) = 258) (t3 : tv (p + 2) = S) (hS : S ≤ 8) : ∃ a' w', F_X11_atPlace D (nI x) (nI lo) (nI hi) (MD h a t pl w) = some (.int 0, MD h a' (va_up (va_up t (x + 1) (nI (tv p))) (x + 2) (nI S)) pl w') ∧ LX tk ts tv te a' w' (p + 3) ∧ p + 3 ≤ T ∧ ∀ k, ¬ k = 7 → ¬ k = 8 → ¬ k = 9 → ¬ k = 10 → a' k = a k := by
  obtain ⟨d, rfl⟩ : ∃ d, D = d + 1 := ⟨D - 1, by omega⟩
  obtain ⟨a1, w1, r1, r2, r3, r4⟩ := m_fgO L N hx hT (t := t) (pl := pl) (x := x + 1) X e4 hp (D := d) (by omega) (by omega) hhi ht hr
  have e4a : a1 4 = nI len := by rw [r4 4 (by decide) (by decide) (by decide) (by decide)]; exact e4
  obtain ⟨a2, w2, q1, q2, q3⟩ := N d a1 (va_up t (x + 1) (nI (tv p))) pl w1 (p + 1) (by omega) (lt_TT L N hx hT (by omega) (by omega)) e4a r2
  have e4b : a2 4 = nI len := by rw [q3 4 (by decide) (by decide) (by decide) (by decide)]; exact e4a
  obtain ⟨a3, w3, s1, s2, s3, s4⟩ := m_fgO L N hx hT (t := va_up t (x + 1) (nI (tv p))) (pl := pl) (x := x + 2) (lo := 0) (hi := 8) q2 e4b (by have := lt_TT L N hx hT (p := p + 1) (by omega) (by omega); omega) (D := d) (by omega) (by omega) (by omega) t2 ⟨Nat.zero_le _, by show tv (p + 2) ≤ 8; omega⟩
  have t3' : tv (p + 1 + 1) = S := t3
  refine ⟨a3, w3, ?_, s2, s3, fun k k1 k2 k3 k4 => by rw [s4 k k1 k2 k3 k4, q3 k k1 k2 k3 k4, r4 k k1 k2 k3 k4]⟩
  rw [S_X11_atPlace (lay_MD L _ _ _ _), nI_1, r1, cI_some, if_pos rfl, m_W14 (lay_MD L _ _ _ _) (by omega), cL_some, m_isw L r2 (by omega) (by decide), cI_some, if_pos (show tk (p + 1) = 300 + 14 from t1), if_neg (by decide), q1, cV_some, nIb, show F_X11_figure d (nI (x + 2)) 0 8 (MD h a2 (va_up t (x + 1) (nI (tv p))) pl w2) = _ from s1, cI_some, t3']
theorem m_atN {h : MH} (L : lay h) {tk : Nat → Nat} {ts : Nat → Nat} {tv : Nat → Nat} {te : Nat → Nat} {T : Nat} {len : Nat} {tx : Nat} (N : NXT h tk ts tv te T len) (hx : tx < 4) (hT : tk T = 259) {a t pl : Nat → Int32} {w : Nat → Int64} {p x lo hi fl q : Nat} (X : LX tk ts tv te a w p) (e4 : a 4 = nI len) (hp : p ≤ T) {D : Nat} (hD : 9 ≤ D) (hx2 : x + 2 < 2724) (hlo : lo < 1000) (hhi : hi < 1000) (B : (¬ tk p = 258 ∧ fl = 1 ∧ q = p) ∨ (tk p = 258 ∧ ¬ (lo ≤ tv p ∧ tv p ≤ hi) ∧ fl = 2 ∧ q = p) ∨ ((tk p = 258 ∧ lo ≤ tv p ∧ tv p ≤ hi) ∧ (¬ tk (p + 1) = 314 ∧ fl = 1 ∧ q = p + 1 ∨ tk (p + 1) = 314 ∧ (¬ tk (p + 2) = 258 ∧ fl = 1 ∧ q = p + 2 ∨ tk (p + 2) = 258 ∧ ¬ tv (p + 2) ≤ 8 ∧ fl = 2 ∧ q = p + 2)))) : ∃ a' t' w', F_X11_atPlace D (nI x) (nI lo) (nI hi) (MD h a t pl w) = some (.int (nI fl), MD h a' t' pl w') ∧ LX tk ts tv te a' w' q ∧ (∀ k, ¬ k = 7 → ¬ k = 8 → ¬ k = 9 → ¬ k = 10 → a' k = a k) ∧ ∀ j, ¬ j = x + 1 → t' j = t j := by
  obtain ⟨d, rfl⟩ : ∃ d, D = d + 1 := ⟨D - 1, by omega⟩
  rw [S_X11_atPlace (lay_MD L _ _ _ _), nI_1]
  rcases B with ⟨b1, rfl, rfl⟩ | ⟨b1, b2, rfl, rfl⟩ | ⟨⟨b1, b2⟩, B⟩
  · exact ⟨a, t, w, by rw [m_fgB L N hx hT X (by omega) b1, cI_some, if_neg (by decide)], X, fun _ _ _ _ _ => rfl, fun _ _ => rfl⟩
  · exact ⟨a, t, w, by rw [m_fgR L N hx hT X (by omega) hlo hhi b1 b2, cI_some, if_neg (by decide)], X, fun _ _ _ _ _ => rfl, fun _ _ => rfl⟩
  obtain ⟨a1, w1, r1, r2, r3, r4⟩ := m_fgO L N hx hT (t := t) (pl := pl) (x := x + 1) X e4 hp (D := d) (by omega) (by omega) hhi b1 b2
  have e4a : a1 4 = nI len := by rw [r4 4 (by decide) (by decide) (by decide) (by decide)]; exact e4
  rw [r1, cI_some, if_pos rfl, m_W14 (lay_MD L _ _ _ _) (by omega), cL_some, m_isw L r2 (by omega) (by decide), cI_some]
  rcases B with ⟨c1, rfl, rfl⟩ | ⟨c1, B⟩
  · exact ⟨a1, va_up t (x + 1) (nI (tv p)), w1, by rw [if_neg (show ¬ tk (p + 1) = 300 + 14 from c1), if_pos rfl]; rfl, r2, r4, fun j hj => va_ne _ _ hj⟩
  obtain ⟨a2, w2, q1, q2, q3⟩ := N d a1 (va_up t (x + 1) (nI (tv p))) pl w1 (p + 1) (by omega) (lt_TT L N hx hT (by omega) (by omega)) e4a r2
  rw [if_pos (show tk (p + 1) = 300 + 14 from c1), if_neg (by decide), q1, cV_some, nIb]
  have fr : ∀ k, ¬ k = 7 → ¬ k = 8 → ¬ k = 9 → ¬ k = 10 → a2 k = a k := fun k k1 k2 k3 k4 => by rw [q3 k k1 k2 k3 k4, r4 k k1 k2 k3 k4]
  rcases B with ⟨c2, rfl, rfl⟩ | ⟨c2, c3, rfl, rfl⟩
  · exact ⟨a2, va_up t (x + 1) (nI (tv p)), w2, by rw [m_fgB L N hx hT q2 (by omega) c2, cI_some], q2, fr, fun j hj => va_ne _ _ hj⟩
  · refine ⟨a2, va_up t (x + 1) (nI (tv p)), w2, ?_, q2, fr, fun j hj => va_ne _ _ hj⟩
    rw [show F_X11_figure d (nI (x + 2)) 0 8 (MD h a2 (va_up t (x + 1) (nI (tv p))) pl w2) = _ from m_fgR L N hx hT (lo := 0) (hi := 8) q2 (by omega) (by omega) (by omega) c2 (by show ¬ (0 ≤ tv (p + 2) ∧ tv (p + 2) ≤ 8); omega), cI_some]
end MCL
