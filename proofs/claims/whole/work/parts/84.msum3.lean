--deps:19.lay 21.facts 22.00.names 22.01.eq 22.02.eq 22.03.eq 22.04.eq 22.05.eq 22.06.eq 22.07.eq 22.08.eq 22.09.eq 22.10.eq 22.11.eq 22.12.eq 22.13.eq 22.14.eq 22.15.eq 22.16.eq 22.17.eq 22.18.eq 22.19.eq 22.20.eq 22.21.eq 22.22.eq 22.23.eq 23.num 24.town 25.evc 26.evm 27.law 28.says 29.inv 71.yard 72.yard2 73.gx 74.gx2 75.gx3 76.reader 79.mtok 80.mpile 81.myard 82.msum 83.msum2
/-! THE REFERENCE READS A SUM -/
set_option linter.unusedSectionVars false
theorem ynx_t {tk tv : Nat → Nat} {sl : Bool} {π : List Nat} {o p f : Nat} {c : List (Nat × Nat)} (e : ynx tk tv sl (π, o, true, p, c) = .inr f) : f = if opw π = 0 then 0 else 1 := by
  unfold ynx at e
  simp only at e
  rw [if_pos trivial] at e
  split at e
  · split at e
    · cases e; rfl
    · split at e <;> cases e
  · cases e
/-- the row as a sum begins -/
def SB (tk ts tv te : Nat → Nat) (T len tx : Nat) (sl : Bool) (a t : Nat → Int32) (w : Nat → Int64) (p : Nat) (c : List (Nat × Nat)) : Prop := (a 13 = nI c.length ∧ a 12 = nI (681 * tx) ∧ (a 14 = 1 ↔ sl = true) ∧ a 4 = nI len) ∧ atM t (681 * tx + 73) 0 c ∧ LX tk ts tv te a w p ∧ c.length ≤ p ∧ p ≤ T ∧ T ≤ 300
section MRN
theorem m_yn {h : MH} (L : lay h) {tk : Nat → Nat} {ts : Nat → Nat} {tv : Nat → Nat} {te : Nat → Nat} {T : Nat} {len : Nat} {tx : Nat} {sl : Bool} (N : NXT h tk ts tv te T len) (hx : tx < 4) (hT : tk T = 259) {D : Nat} (hD : 14 ≤ D) : ∀ (n : Nat) (s s' : YS), Yn tk tv sl n s s' → ∀ (a t pl : Nat → Int32) (w : Nat → Int64) (o1 : Option Value), YV tk ts tv te T len tx sl a t pl w s → ∃ a' t' pl' w' o2, G_X11_summed_9 D o1 (MD h a t pl w) = G_X11_summed_9 D o2 (MD h a' t' pl' w') ∧ YV tk ts tv te T len tx sl a' t' pl' w' s' ∧ FRM tx a a' t t' := by
  intro n
  induction n with
  | zero =>
    intro s s' y a t pl w o1 Y
    obtain ⟨rfl, -⟩ := y
    exact ⟨a, t, pl, w, o1, rfl, Y, FRM_refl _ _ _⟩
  | succ n ih =>
    intro s s' y a t pl w o1 Y
    obtain ⟨hl, s1, e, y⟩ := y
    obtain ⟨π, o, b, p, c⟩ := s
    have LM := lay_MD L a t pl w
    cases b with
    | false =>
      obtain ⟨a1, t1, pl1, w1, r1, r2, r3⟩ := (m_begin L N hx hT (D := D) (by omega) Y hl).1 s1 e
      obtain ⟨a2, t2, pl2, w2, o2, q1, q2, q3⟩ := ih s1 s' y a1 t1 pl1 w1 (some (.int 0)) r2
      refine ⟨a2, t2, pl2, w2, o2, ?_, q2, FRM_tr r3 q3⟩
      have e18 : a 18 = 0 := Y.2.1.1
      rw [S_X11_summed_9 LM, gI_MD67, if_pos e18, r1, cI_some, if_pos rfl, q1]
    | true =>
      obtain ⟨a1, t1, pl1, w1, r1, r2, r3⟩ := (m_behind L N hx hT (D := D) (by omega) Y hl).1 s1 e
      obtain ⟨a2, t2, pl2, w2, o2, q1, q2, q3⟩ := ih s1 s' y a1 t1 pl1 w1 o1 r2
      refine ⟨a2, t2, pl2, w2, o2, ?_, q2, FRM_tr r3 q3⟩
      have e18 : a 18 = 1 := Y.2.1.1
      rw [S_X11_summed_9 LM, gI_MD67, e18, if_neg (by decide), r1, cI_some, if_neg (by decide), q1]
theorem SB_YV {h : MH} (L : lay h) {tk : Nat → Nat} {ts : Nat → Nat} {tv : Nat → Nat} {te : Nat → Nat} {T : Nat} {len : Nat} {tx : Nat} {sl : Bool} (N : NXT h tk ts tv te T len) (hx : tx < 4) (hT : tk T = 259) {a t pl : Nat → Int32} {w : Nat → Int64} {p : Nat} {c : List (Nat × Nat)} (B : SB tk ts tv te T len tx sl a t w p c) : YV tk ts tv te T len tx sl (va_up (va_up (va_up a 16 0) 17 0) 18 0) t pl w ([], 0, false, p, c) := by
  obtain ⟨⟨e13, e12, e14, e4⟩, hat, X, b1, b2, b3⟩ := B
  exact ⟨⟨⟨rfl, rfl, e13, e12⟩, trivial, hat, rfl, by show c.length + 0 ≤ 300; omega, Nat.zero_le _, hx⟩, ⟨rfl, e14, e4⟩, LX_eq X rfl rfl rfl rfl, by show c.length + 0 ≤ p; omega, b2, b3, Nat.zero_le _⟩
theorem m_sumd {h : MH} (L : lay h) {tk : Nat → Nat} {ts : Nat → Nat} {tv : Nat → Nat} {te : Nat → Nat} {T : Nat} {len : Nat} {tx : Nat} {sl : Bool} (N : NXT h tk ts tv te T len) (hx : tx < 4) (hT : tk T = 259) {D : Nat} (hD : 15 ≤ D) {a t pl : Nat → Int32} {w : Nat → Int64} {p : Nat} {c : List (Nat × Nat)} (B : SB tk ts tv te T len tx sl a t w p c) {s : YS} (r : Yr tk tv sl ([], 0, false, p, c) s) : ∃ a' t' pl' w' o2, F_X11_summed D (MD h a t pl w) = G_X11_summed_9 (D - 1) o2 (MD h a' t' pl' w') ∧ YV tk ts tv te T len tx sl a' t' pl' w' s ∧ FRM tx a a' t t' := by
  obtain ⟨d, rfl⟩ : ∃ d, D = d + 1 := ⟨D - 1, by omega⟩
  obtain ⟨n, r⟩ := r
  obtain ⟨a2, t2, pl2, w2, o2, q1, q2, q3⟩ := m_yn L N hx hT (D := d) (by omega) n _ _ r _ t pl w none (SB_YV L N hx hT B)
  refine ⟨a2, t2, pl2, w2, o2, ?_, q2, FRM_tr ⟨fun k hk => ?_, fun _ _ => rfl⟩ q3⟩
  · rw [S_X11_summed (lay_MD L _ _ _ _), sI_MD67, lt_def, sI_MD67, lt_def, sI_MD67, lt_def, q1]
    rfl
  · rw [va_ne _ _ hk.2.2.2.2.2.2.2, va_ne _ _ hk.2.2.2.2.2.2.1, va_ne _ _ hk.2.2.2.2.2.1]
theorem m_sumY {h : MH} (L : lay h) {tk : Nat → Nat} {ts : Nat → Nat} {tv : Nat → Nat} {te : Nat → Nat} {T : Nat} {len : Nat} {tx : Nat} {sl : Bool} (N : NXT h tk ts tv te T len) (hx : tx < 4) (hT : tk T = 259) {D : Nat} (hD : 20 ≤ D) {a t pl : Nat → Int32} {w : Nat → Int64} {p q : Nat} {c m : List (Nat × Nat)} (B : SB tk ts tv te T len tx sl a t w p c) (H : ∃ s, Yr tk tv sl ([], 0, false, p, c) s ∧ ynx tk tv sl s = .inr 0 ∧ s.2.2.2.1 = q ∧ stel 1 s.1 s.2.1 s.2.2.2.2 = ([], 0, c ++ m) ∧ opw s.1 = 0) : ∃ a' t' pl' w', F_X11_summed D (MD h a t pl w) = some (.int 0, MD h a' t' pl' w') ∧ SB tk ts tv te T len tx sl a' t' w' q (c ++ m) ∧ FRM tx a a' t t' := by
  obtain ⟨s, r, e, hq, hs, ho⟩ := H
  obtain ⟨a1, t1, pl1, w1, o2, q1, q2, q3⟩ := m_sumd L N hx hT (D := D) (by omega) (pl := pl) B r
  have hl : s.1.length ≤ 60 := Yr_len' r
  obtain ⟨π, o, b, p', c'⟩ := s
  simp only at hq hs ho hl
  subst hq
  cases b with
  | false => exact absurd rfl ((m_begin L N hx hT (D := D) (by omega) q2 hl).2 0 e).2.1
  | true =>
    have r1 := (m_behind L N hx hT (D := D - 1) (by omega) q2 hl).2 0 e
    have e18 : a1 18 = 1 := q2.2.1.1
    have e16 : a1 16 = nI π.length := q2.1.1.1
    have P : PIL pl1 π := q2.1.2.1
    have S : SV tx a1 t1 pl1 π o c' := q2.1
    obtain ⟨a3, t3, s1, s2, s3⟩ := m_settl L hx (w := w1) S (D := D - 1) (l := 1) (by omega) (by omega) (by omega)
    rw [hs] at s2
    obtain ⟨⟨f16, f17, f13, f12⟩, P1, hat1, hcO1, u1, u2, u3⟩ := s2
    have b4 : c'.length + π.length ≤ p' := q2.2.2.2.1
    have sl2 := stel_len2 1 π o c'
    rw [hs] at sl2
    simp only [List.length_nil, Nat.add_zero] at sl2
    refine ⟨a3, t3, pl1, w1, ?_, ⟨⟨f13, f12, ?_, ?_⟩, hat1, LX_eq q2.2.2.1 (s3.1 7 (by decide) (by decide) (by decide)) (s3.1 8 (by decide) (by decide) (by decide)) (s3.1 9 (by decide) (by decide) (by decide)) (s3.1 10 (by decide) (by decide) (by decide)), by omega, q2.2.2.2.2.1, q2.2.2.2.2.2.1⟩, FRM_tr q3 (FRS_M s3)⟩
    · rw [q1, S_X11_summed_9 (lay_MD L _ _ _ _), gI_MD67, e18, if_neg (by decide), r1, cI_some, if_pos rfl, m_openNow L P (by omega) e16 (by omega), cI_some, ho, if_pos (show bO 0 < 0 by decide), show (1 : Int32) = nI 1 from rfl, s1, cV_some]
    · rw [s3.1 14 (by decide) (by decide) (by decide)]; exact q2.2.1.2.1
    · rw [s3.1 4 (by decide) (by decide) (by decide)]; exact q2.2.1.2.2
theorem m_sumN {h : MH} (L : lay h) {tk : Nat → Nat} {ts : Nat → Nat} {tv : Nat → Nat} {te : Nat → Nat} {T : Nat} {len : Nat} {tx : Nat} {sl : Bool} (N : NXT h tk ts tv te T len) (hx : tx < 4) (hT : tk T = 259) {D : Nat} (hD : 20 ≤ D) {a t pl : Nat → Int32} {w : Nat → Int64} {p q f : Nat} {c : List (Nat × Nat)} (hf : ¬ f = 0) (B : SB tk ts tv te T len tx sl a t w p c) (H : ∃ s, Yr tk tv sl ([], 0, false, p, c) s ∧ ynx tk tv sl s = .inr f ∧ s.2.2.2.1 = q) : ∃ a' t' pl' w', F_X11_summed D (MD h a t pl w) = some (.int (nI f), MD h a' t' pl' w') ∧ LX tk ts tv te a' w' q ∧ FRM tx a a' t t' := by
  obtain ⟨s, r, e, hq⟩ := H
  obtain ⟨a1, t1, pl1, w1, o2, q1, q2, q3⟩ := m_sumd L N hx hT (D := D) (by omega) (pl := pl) B r
  have hl : s.1.length ≤ 60 := Yr_len' r
  obtain ⟨π, o, b, p', c'⟩ := s
  simp only at hq hl
  subst hq
  refine ⟨a1, t1, pl1, w1, ?_, q2.2.2.1, q3⟩
  cases b with
  | false =>
    have r1 := (m_begin L N hx hT (D := D - 1) (by omega) q2 hl).2 f e
    have e18 : a1 18 = 0 := q2.2.1.1
    rw [q1, S_X11_summed_9 (lay_MD L _ _ _ _), gI_MD67, if_pos e18, r1.1, cI_some, if_neg (by rw [show (0 : Int32) = nI 0 from rfl, nI_eq (by have := r1.2.2; omega) (by omega)]; exact hf)]
  | true =>
    have r1 := (m_behind L N hx hT (D := D - 1) (by omega) q2 hl).2 f e
    have e18 : a1 18 = 1 := q2.2.1.1
    have e16 : a1 16 = nI π.length := q2.1.1.1
    have P : PIL pl1 π := q2.1.2.1
    have ef := ynx_t e
    have ho : ¬ opw π = 0 := fun z => hf (by rw [ef, if_pos z])
    rw [if_neg ho] at ef
    have hb : ¬ bO (opw π) < 0 := by
      rcases ixO_c P with ⟨h1, h2⟩ | ⟨j, h1, h2, h3, h4, h5⟩
      · exact absurd h1 ho
      · unfold bO
        rw [if_neg ho]
        exact nIz (by omega)
    rw [q1, S_X11_summed_9 (lay_MD L _ _ _ _), gI_MD67, e18, if_neg (by decide), r1, cI_some, if_pos rfl, m_openNow L P (by omega) e16 (by omega), cI_some, if_neg hb, ef]
    rfl
end MRN
