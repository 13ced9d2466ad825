--deps:19.lay 21.facts 22.00.names 22.01.eq 22.02.eq 22.03.eq 22.04.eq 22.05.eq 22.06.eq 22.07.eq 22.08.eq 22.09.eq 22.10.eq 22.11.eq 22.12.eq 22.13.eq 22.14.eq 22.15.eq 22.16.eq 22.17.eq 22.18.eq 22.19.eq 22.20.eq 22.21.eq 22.22.eq 22.23.eq 23.num 24.town 25.evc 26.evm 27.law 28.says 29.inv 71.yard 72.yard2 73.gx 74.gx2 75.gx3 76.reader 79.mtok 80.mpile
/-! THE REFERENCE'S READER: what it writes -/
set_option linter.unusedSectionVars false
def cO : List Nat → Nat
  | [] => 0
  | k :: π => (if rk k = 7 ∨ k = 20 ∨ 40 ≤ k then 1 else 0) + cO π
def SV (tx : Nat) (a t pl : Nat → Int32) (π : List Nat) (o : Nat) (c : List (Nat × Nat)) : Prop := (a 16 = nI π.length ∧ a 17 = nI o ∧ a 13 = nI c.length ∧ a 12 = nI (681 * tx)) ∧ PIL pl π ∧ atM t (681 * tx + 73) 0 c ∧ (o = cO π ∧ c.length + π.length ≤ 300 ∧ π.length ≤ 160 ∧ tx < 4)
def FRS (tx : Nat) (a a' t t' : Nat → Int32) : Prop := (∀ k, ¬ k = 13 → ¬ k = 16 → ¬ k = 17 → a' k = a k) ∧ (∀ j, j < 681 * tx + 73 ∨ 681 * tx + 681 ≤ j → t' j = t j)
theorem FRS_refl (tx : Nat) (a t : Nat → Int32) : FRS tx a a t t := ⟨fun _ _ _ _ => rfl, fun _ _ => rfl⟩
theorem FRS_tr {tx : Nat} {a a' a2 t t' t2 : Nat → Int32} (u : FRS tx a a' t t') (v : FRS tx a' a2 t' t2) : FRS tx a a2 t t2 := ⟨fun k h1 h2 h3 => (v.1 k h1 h2 h3).trans (u.1 k h1 h2 h3), fun j hj => (v.2 j hj).trans (u.2 j hj)⟩
theorem atM_snoc {t : Nat → Int32} {cb x y : Nat} {c : List (Nat × Nat)} (h : atM t cb 0 c) : atM (va_up (va_up t (cb + 2 * c.length) (nI x)) (cb + 2 * c.length + 1) (nI y)) cb 0 (c ++ [(x, y)]) := by
  intro j hj
  rw [List.length_append, List.length_singleton] at hj
  rw [Nat.zero_add]
  by_cases e : j < c.length
  · rw [va_ne _ _ (by omega), va_ne _ _ (by omega), va_ne _ _ (by omega), va_ne _ _ (by omega), gd_l e]
    have := h j e
    rw [Nat.zero_add] at this
    exact this
  · have ej : j = c.length := by omega
    subst ej
    have g := gd_r (m1 := c) (m2 := [(x, y)]) 0
    rw [Nat.add_zero] at g
    rw [va_ne _ _ (by omega), va_same, va_same, g]
    exact ⟨rfl, rfl⟩
section MEM
theorem m_emt {h : MH} (L : lay h) {pl : Nat → Int32} {w : Nat → Int64} {tx : Nat} (hx : tx < 4) {D n : Nat} (hD : 1 ≤ D) {a t : Nat → Int32} (e12 : a 12 = nI (681 * tx)) (e13 : a 13 = nI n) (hn : n ≤ 302) (x y : Int32) : F_X11_emit D x y (MD h a t pl w) = some (.int 0, MD h (va_up a 13 (nI (n + 1))) (va_up (va_up t (681 * tx + 73 + 2 * n) x) (681 * tx + 73 + 2 * n + 1) y) pl w) := by
  obtain ⟨d, rfl⟩ : ∃ d, D = d + 1 := ⟨D - 1, by omega⟩
  rw [S_X11_emit (lay_MD L _ _ _ _)]
  simp (disch := omega) only [gI_MD67, e12, e13, nI_ltI, nI_leI, nI_eq, nIl, nIL, nIe, nIz, ib_nIi, ib_L, ix_L, ck_pos, if_pos, if_neg, lt_def, ck_true, true_and, and_true, true_or, or_true, ix_nI, nI_1, nIa, nIb, nI_add, cI_some, cR_some, cL_some, cV_some, if_true, if_false, Bool.false_eq_true, ne_eq, not_true_eq_false, not_false_eq_true, nIm, sI_MD70, sI_MD67]
theorem m_stl0 {h : MH} (L : lay h) {pl : Nat → Int32} {w : Nat → Int64} {tx : Nat} (hx : tx < 4) : ∀ (π : List Nat) (a t : Nat → Int32) (o : Nat) (c : List (Nat × Nat)), SV tx a t pl π o c → ∀ D l, 2 ≤ D → 1 ≤ l → l ≤ 7 → ∃ a' t', G_X11_settle_0 D (nI l) (MD h a t pl w) = some (.int 0, MD h a' t' pl w) ∧ SV tx a' t' pl (stel l π o c).1 (stel l π o c).2.1 (stel l π o c).2.2 ∧ FRS tx a a' t t' := by
  intro π
  induction π with
  | nil =>
    intro a t o c S D l hD h1 h7
    refine ⟨a, t, ?_, S, FRS_refl _ _ _⟩
    rw [S_X11_settle_0 (lay_MD L _ _ _ _), gI_MD67, S.1.1, if_pos (by decide)]
  | cons k π ih =>
    intro a t o c S D l hD h1 h7
    obtain ⟨⟨e16, e17, e13, e12⟩, ⟨p1, p2, p3⟩, hat, ho, hl, hl2, htx⟩ := S
    simp only [List.length_cons] at e16 hl hl2
    have hr : rk k ≤ 7 := by unfold rk; repeat (first | omega | split)
    rw [stel]
    rw [S_X11_settle_0 (lay_MD L _ _ _ _), gI_MD67, e16, if_neg (by rw [show (0 : Int32) = nI 0 from rfl, nI_leI (by omega) (by omega)]; omega), nI_pred, gI_MD72, ix_nI (by omega), ck_pos ((ib_nIi (by omega)).mpr (by omega)), p1, m_rnk (lay_MD L _ _ _ _) (by omega) p2, cI_some]
    by_cases c1 : l ≤ rk k
    · rw [if_pos c1, if_neg (by rw [nI_ltI (by omega) (by omega)]; omega), gI_MD67, e16, nI_pred, sI_MD67, lt_def]
      have v16 : va_up a 16 (nI π.length) 16 = nI π.length := va_same _ _ _
      have v12 : va_up a 16 (nI π.length) 12 = nI (681 * tx) := e12
      have v13 : va_up a 16 (nI π.length) 13 = nI c.length := e13
      rw [gI_MD67, v16, gI_MD72, ix_nI (by omega), ck_pos ((ib_nIi (by omega)).mpr (by omega)), p1, m_emt L hx (by omega) v12 v13 (by omega), cV_some]
      have q16 : va_up (va_up a 16 (nI π.length)) 13 (nI (c.length + 1)) 16 = nI π.length := v16
      have q17 : va_up (va_up a 16 (nI π.length)) 13 (nI (c.length + 1)) 17 = nI o := e17
      have q13 : va_up (va_up a 16 (nI π.length)) 13 (nI (c.length + 1)) 13 = nI (c ++ [(k, 0)]).length := by rw [va_same, List.length_append]; rfl
      have q12 : va_up (va_up a 16 (nI π.length)) 13 (nI (c.length + 1)) 12 = nI (681 * tx) := e12
      rw [gI_MD67, q16, gI_MD72, ix_nI (by omega), ck_pos ((ib_nIi (by omega)).mpr (by omega)), p1, m_rnk (lay_MD L _ _ _ _) (by omega) p2, cI_some]
      have hat' := atM_snoc (x := k) (y := 0) hat
      have hlen : (c ++ [(k, 0)]).length + π.length ≤ 300 := by rw [List.length_append, List.length_singleton]; omega
      have frt : ∀ j, j < 681 * tx + 73 ∨ 681 * tx + 681 ≤ j → va_up (va_up t (681 * tx + 73 + 2 * c.length) (nI k)) (681 * tx + 73 + 2 * c.length + 1) 0 j = t j := fun j hj => by rw [va_ne _ _ (by omega), va_ne _ _ (by omega)]
      by_cases c2 : rk k = 7 ∨ k = 20
      · have e42 : (if nI (rk k) = 7 then G_X11_settle_42 D (nI l) (MD h (va_up (va_up a 16 (nI π.length)) 13 (nI (c.length + 1))) (va_up (va_up t (681 * tx + 73 + 2 * c.length) (nI k)) (681 * tx + 73 + 2 * c.length + 1) 0) pl w) else ck (ib (gI (MD h (va_up (va_up a 16 (nI π.length)) 13 (nI (c.length + 1))) (va_up (va_up t (681 * tx + 73 + 2 * c.length) (nI k)) (681 * tx + 73 + 2 * c.length + 1) 0) pl w) 67 16) 160) (if gI (MD h (va_up (va_up a 16 (nI π.length)) 13 (nI (c.length + 1))) (va_up (va_up t (681 * tx + 73 + 2 * c.length) (nI k)) (681 * tx + 73 + 2 * c.length + 1) 0) pl w) 72 (ix (gI (MD h (va_up (va_up a 16 (nI π.length)) 13 (nI (c.length + 1))) (va_up (va_up t (681 * tx + 73 + 2 * c.length) (nI k)) (681 * tx + 73 + 2 * c.length + 1) 0) pl w) 67 16)) = 20 then G_X11_settle_42 D (nI l) (MD h (va_up (va_up a 16 (nI π.length)) 13 (nI (c.length + 1))) (va_up (va_up t (681 * tx + 73 + 2 * c.length) (nI k)) (681 * tx + 73 + 2 * c.length + 1) 0) pl w) else G_X11_settle_0 D (nI l) (MD h (va_up (va_up a 16 (nI π.length)) 13 (nI (c.length + 1))) (va_up (va_up t (681 * tx + 73 + 2 * c.length) (nI k)) (681 * tx + 73 + 2 * c.length + 1) 0) pl w))) = G_X11_settle_42 D (nI l) (MD h (va_up (va_up a 16 (nI π.length)) 13 (nI (c.length + 1))) (va_up (va_up t (681 * tx + 73 + 2 * c.length) (nI k)) (681 * tx + 73 + 2 * c.length + 1) 0) pl w) := by
          by_cases c3 : rk k = 7
          · rw [if_pos (by rw [c3]; rfl)]
          · rw [if_neg (by rw [nIe (by omega) (by decide)]; exact c3), gI_MD67, q16, gI_MD72, ix_nI (by omega), ck_pos ((ib_nIi (by omega)).mpr (by omega)), p1, if_pos (by rw [c2.resolve_left c3]; rfl)]
        have hcO : o = 1 + cO π := by
          rw [ho, cO, if_pos (c2.imp id Or.inl)]
        have hb : o ≤ 1000 := by
          have : ∀ l : List Nat, cO l ≤ l.length := by
            intro l
            induction l with
            | nil => exact Nat.le_refl _
            | cons x l ih => rw [cO, List.length_cons]; split <;> omega
          have := this π
          omega
        rw [if_pos c2, e42, S_X11_settle_42 (lay_MD L _ _ _ _), gI_MD67, q17, hcO, show nI (1 + cO π) - 1 = nI (cO π) by rw [Nat.add_comm, nI_pred], sI_MD67, lt_def, Nat.add_sub_cancel_left]
        obtain ⟨a', t', r1, r2, r3⟩ := ih _ _ (cO π) (c ++ [(k, 0)]) (show SV tx (va_up (va_up (va_up a 16 (nI π.length)) 13 (nI (c.length + 1))) 17 (nI (cO π))) (va_up (va_up t (681 * tx + 73 + 2 * c.length) (nI k)) (681 * tx + 73 + 2 * c.length + 1) 0) pl π (cO π) (c ++ [(k, 0)]) from ⟨⟨q16, va_same _ _ _, q13, q12⟩, p3, hat', rfl, hlen, by omega, htx⟩) D l hD h1 h7
        refine ⟨a', t', r1, r2, FRS_tr ⟨fun j j1 j2 j3 => ?_, frt⟩ r3⟩
        rw [va_ne _ _ j3, va_ne _ _ j1, va_ne _ _ j2]
      · have n1 : ¬ rk k = 7 := fun z => c2 (Or.inl z)
        have n2 : ¬ k = 20 := fun z => c2 (Or.inr z)
        have n4 : ¬ 40 ≤ k := by
          intro z
          unfold rk at c1
          rw [if_pos z] at c1
          omega
        have hcO : o = cO π := by
          rw [ho, cO, if_neg (by omega), Nat.zero_add]
        rw [if_neg c2, if_neg (by rw [nIe (by omega) (by decide)]; exact n1), gI_MD67, q16, gI_MD72, ix_nI (by omega), ck_pos ((ib_nIi (by omega)).mpr (by omega)), p1, if_neg (by rw [nIe (by omega) (by decide)]; exact n2)]
        obtain ⟨a', t', r1, r2, r3⟩ := ih _ _ o (c ++ [(k, 0)]) (show SV tx (va_up (va_up a 16 (nI π.length)) 13 (nI (c.length + 1))) (va_up (va_up t (681 * tx + 73 + 2 * c.length) (nI k)) (681 * tx + 73 + 2 * c.length + 1) 0) pl π o (c ++ [(k, 0)]) from ⟨⟨q16, q17, q13, q12⟩, p3, hat', hcO, hlen, by omega, htx⟩) D l hD h1 h7
        refine ⟨a', t', r1, r2, FRS_tr ⟨fun j j1 j2 j3 => ?_, frt⟩ r3⟩
        rw [va_ne _ _ j1, va_ne _ _ j2]
    · rw [if_neg c1, if_pos (by rw [nI_ltI (by omega) (by omega)]; omega)]
      exact ⟨a, t, rfl, ⟨⟨by simp only [List.length_cons]; exact e16, e17, e13, e12⟩, ⟨p1, p2, p3⟩, hat, ho, by simp only [List.length_cons]; omega, by simp only [List.length_cons]; omega, htx⟩, FRS_refl _ _ _⟩
theorem m_settl {h : MH} (L : lay h) {pl : Nat → Int32} {w : Nat → Int64} {tx : Nat} (hx : tx < 4) {π : List Nat} {a t : Nat → Int32} {o : Nat} {c : List (Nat × Nat)} (S : SV tx a t pl π o c) {D l : Nat} (hD : 3 ≤ D) (h1 : 1 ≤ l) (h7 : l ≤ 7) : ∃ a' t', F_X11_settle D (nI l) (MD h a t pl w) = some (.int 0, MD h a' t' pl w) ∧ SV tx a' t' pl (stel l π o c).1 (stel l π o c).2.1 (stel l π o c).2.2 ∧ FRS tx a a' t t' := by
  obtain ⟨d, rfl⟩ : ∃ d, D = d + 1 := ⟨D - 1, by omega⟩
  obtain ⟨a', t', r1, r2⟩ := m_stl0 L hx π a t o c S d l (by omega) h1 h7
  refine ⟨a', t', ?_, r2⟩
  rw [S_X11_settle_0 (lay_MD L _ _ _ _)] at r1
  rw [S_X11_settle (lay_MD L _ _ _ _)]
  exact r1
end MEM
