--deps:19.lay 21.facts 22.00.names 22.01.eq 22.02.eq 22.03.eq 22.04.eq 22.05.eq 22.06.eq 22.07.eq 22.08.eq 22.09.eq 22.10.eq 22.11.eq 22.12.eq 22.13.eq 22.14.eq 22.15.eq 22.16.eq 22.17.eq 22.18.eq 22.19.eq 22.20.eq 22.21.eq 22.22.eq 22.23.eq 23.num 24.town 25.evc 26.evm 27.law 28.says 29.inv 71.yard 72.yard2 73.gx 74.gx2 75.gx3 76.reader 79.mtok
/-! THE REFERENCE'S READER: what it asks of its pile -/
set_option linter.unusedSectionVars false
def PIL (pl : Nat → Int32) : List Nat → Prop
  | [] => True
  | k :: π => pl π.length = nI k ∧ k < 100 ∧ PIL pl π
def ptI (x : Nat) : Int32 := if x = 0 then -1 else if x = 1 then 0 else nI x
def bO (x : Nat) : Int32 := if x = 0 then -1 else nI x
theorem m1_sub (n : Nat) : nI n - 1 = nI n + (-1) := by
  exact Int32.sub_eq_add_neg _ _
theorem m_rnk {h : MH} (L : lay h) {D k : Nat} (hD : 1 ≤ D) (hk : k < 100) : F_X11_rank D (nI k) h = some (.int (nI (rk k)), h) := by
  obtain ⟨d, rfl⟩ : ∃ d, D = d + 1 := ⟨D - 1, by omega⟩
  rw [S_X11_rank L]
  unfold rk
  by_cases c1 : 40 ≤ k
  · rw [if_pos c1, if_neg (by rw [nIl (by omega) (by decide)]; show ¬ k < 40; omega)]; rfl
  rw [if_neg c1, if_pos (by rw [nIl (by omega) (by decide)]; show k < 40; omega)]
  by_cases c2 : k = 22
  · subst c2; rfl
  rw [if_neg c2, if_neg (by rw [nIe (by omega) (by decide)]; exact c2)]
  by_cases c3 : k = 21
  · subst c3; rfl
  rw [if_neg c3, if_neg (by rw [nIe (by omega) (by decide)]; exact c3)]
  by_cases c4 : k = 20
  · subst c4; rfl
  rw [if_neg c4, if_neg (by rw [nIe (by omega) (by decide)]; exact c4)]
  by_cases c5 : 10 ≤ k
  · rw [if_pos c5, if_neg (by rw [nIl (by omega) (by decide)]; show ¬ k < 10; omega)]; rfl
  rw [if_neg c5, if_pos (by rw [nIl (by omega) (by decide)]; show k < 10; omega)]
  by_cases c6 : 8 ≤ k
  · rw [if_pos c6, if_neg (by rw [nIl (by omega) (by decide)]; show ¬ k < 8; omega)]; rfl
  rw [if_neg c6, if_pos (by rw [nIl (by omega) (by decide)]; show k < 8; omega)]
  by_cases c7 : 6 ≤ k
  · rw [if_pos c7, if_neg (by rw [nIl (by omega) (by decide)]; show ¬ k < 6; omega)]; rfl
  rw [if_neg c7, if_pos (by rw [nIl (by omega) (by decide)]; show k < 6; omega)]; rfl
/-- where the innermost open one stands -/
def ixO : List Nat → Int32
  | [] => -1
  | k :: π => if 40 ≤ k then nI π.length else ixO π
theorem ixO_c {pl : Nat → Int32} : ∀ {π : List Nat}, PIL pl π → (opw π = 0 ∧ ixO π = -1) ∨ ∃ j, j < π.length ∧ ixO π = nI j ∧ pl j = nI (opw π) ∧ 40 ≤ opw π ∧ opw π < 100 := by
  intro π
  induction π with
  | nil => intro _; exact Or.inl ⟨rfl, rfl⟩
  | cons k π ih =>
    intro P
    rw [opw, ixO]
    by_cases c : 40 ≤ k
    · rw [if_pos c, if_pos c]
      exact Or.inr ⟨π.length, by simp, rfl, P.1, c, P.2.1⟩
    · rw [if_neg c, if_neg c]
      rcases ih P.2.2 with h | ⟨j, h1, h2⟩
      · exact Or.inl h
      · exact Or.inr ⟨j, by simp only [List.length_cons]; omega, h2⟩
theorem m1_neg : (nI 0 + (-1) : Int32) < 0 := by decide
section MPL
theorem m_op5 {h : MH} (L : lay h) {a : Nat → Int32} {t : Nat → Int32} {pl : Nat → Int32} {w : Nat → Int64} : ∀ {π : List Nat}, PIL pl π → π.length ≤ 160 → ∀ D, G_X11_openAt_5 D (nI π.length + (-1)) (MD h a t pl w) = some (.int (ixO π), MD h a t pl w) := by
  intro π
  induction π with
  | nil =>
    intro _ _ D
    rw [S_X11_openAt_5 (lay_MD L _ _ _ _), show ([] : List Nat).length = 0 from rfl, if_pos m1_neg]
    rfl
  | cons k π ih =>
    intro P hl D
    simp only [List.length_cons] at hl ⊢
    have hk := P.2.1
    rw [S_X11_openAt_5 (lay_MD L _ _ _ _), pk_m1, if_neg (nIz (by omega)), gI_MD72, ix_nI (by omega), ck_pos ((ib_nIi (by omega)).mpr (by omega)), P.1, ixO]
    by_cases c : 40 ≤ k
    · rw [if_pos c, if_neg (by rw [nIl (by omega) (by decide)]; show ¬ k < 40; omega)]
    · rw [if_neg c, if_pos (by rw [nIl (by omega) (by decide)]; show k < 40; omega), ih P.2.2 (by omega)]
theorem m_openAt {h : MH} (L : lay h) {a : Nat → Int32} {t : Nat → Int32} {pl : Nat → Int32} {w : Nat → Int64} {π : List Nat} (P : PIL pl π) (hl : π.length ≤ 160) (e : a 16 = nI π.length) {D : Nat} (hD : 1 ≤ D) : F_X11_openAt D (MD h a t pl w) = some (.int (ixO π), MD h a t pl w) := by
  obtain ⟨d, rfl⟩ : ∃ d, D = d + 1 := ⟨D - 1, by omega⟩
  rw [S_X11_openAt (lay_MD L _ _ _ _), lt_def, gI_MD67, e, m1_sub, m_op5 L P hl]
theorem m_openNow {h : MH} (L : lay h) {a : Nat → Int32} {t : Nat → Int32} {pl : Nat → Int32} {w : Nat → Int64} {π : List Nat} (P : PIL pl π) (hl : π.length ≤ 160) (e : a 16 = nI π.length) {D : Nat} (hD : 2 ≤ D) : F_X11_openNow D (MD h a t pl w) = some (.int (bO (opw π)), MD h a t pl w) := by
  obtain ⟨d, rfl⟩ : ∃ d, D = d + 1 := ⟨D - 1, by omega⟩
  rw [S_X11_openNow (lay_MD L _ _ _ _), m_openAt L P hl e (by omega), cI_some]
  unfold bO
  rcases ixO_c P with ⟨h1, h2⟩ | ⟨j, h1, h2, h3, h4, h5⟩
  · rw [h2, if_pos (by decide), if_pos h1]
  · rw [h2, if_neg (nIz (by omega)), m_openAt L P hl e (by omega), cI_some, h2, ck_pos ((ib_nIi (by omega)).mpr (by omega)), gI_MD72, ix_nI (by omega), h3, if_neg (by omega)]
theorem m_cm5 {h : MH} (L : lay h) {a : Nat → Int32} {t : Nat → Int32} {pl : Nat → Int32} {w : Nat → Int64} : ∀ {π : List Nat}, PIL pl π → π.length ≤ 160 → ∀ D, 1 ≤ D → G_X11_isCompared_5 D (nI π.length + (-1)) (MD h a t pl w) = some (.int (if cmpd π = true then 1 else 0), MD h a t pl w) := by
  intro π
  induction π with
  | nil =>
    intro _ _ D hD
    rw [S_X11_isCompared_5 (lay_MD L _ _ _ _), show ([] : List Nat).length = 0 from rfl, if_pos m1_neg, S_X11_isCompared_16 (lay_MD L _ _ _ _), if_pos m1_neg]
    rfl
  | cons k π ih =>
    intro P hl D hD
    simp only [List.length_cons] at hl ⊢
    have hk := P.2.1
    rw [S_X11_isCompared_5 (lay_MD L _ _ _ _), pk_m1, if_neg (nIz (by omega)), gI_MD72, ix_nI (by omega), ck_pos ((ib_nIi (by omega)).mpr (by omega)), P.1, m_rnk (lay_MD L _ _ _ _) hD hk, cI_some, cmpd]
    have hr : rk k ≤ 7 := by unfold rk; repeat (first | omega | split)
    by_cases c : 4 < rk k
    · rw [if_pos c, if_neg (by rw [nIL (by omega) (by decide)]; show ¬ rk k ≤ 4; omega), ih P.2.2 (by omega) D hD]
    · rw [if_neg c, if_pos (by rw [nIL (by omega) (by decide)]; show rk k ≤ 4; omega), S_X11_isCompared_16 (lay_MD L _ _ _ _), if_neg (nIz (by omega)), gI_MD72, ix_nI (by omega), ck_pos ((ib_nIi (by omega)).mpr (by omega)), P.1, m_rnk (lay_MD L _ _ _ _) hD hk, cI_some]
      by_cases c4 : rk k = 4
      · rw [if_pos (by rw [c4]; rfl), if_pos (decide_eq_true c4)]
      · rw [if_neg (by rw [nIe (by omega) (by decide)]; exact c4), if_neg (by rw [decide_eq_false c4]; decide)]
theorem m_cmpd {h : MH} (L : lay h) {a : Nat → Int32} {t : Nat → Int32} {pl : Nat → Int32} {w : Nat → Int64} {π : List Nat} (P : PIL pl π) (hl : π.length ≤ 160) (e : a 16 = nI π.length) {D : Nat} (hD : 2 ≤ D) : F_X11_isCompared D (MD h a t pl w) = some (.int (if cmpd π = true then 1 else 0), MD h a t pl w) := by
  obtain ⟨d, rfl⟩ : ∃ d, D = d + 1 := ⟨D - 1, by omega⟩
  rw [S_X11_isCompared (lay_MD L _ _ _ _), lt_def, gI_MD67, e, m1_sub, m_cm5 L P hl d (by omega)]
theorem m_aahY {h : MH} (L : lay h) {a : Nat → Int32} {t : Nat → Int32} {pl : Nat → Int32} {w : Nat → Int64} {π : List Nat} (P : PIL pl π) (hl : π.length ≤ 160) (e : a 16 = nI π.length) {D : Nat} (hD : 3 ≤ D) (A : aah π) : F_X11_isAskAhead D (MD h a t pl w) = some (.int 1, MD h a t pl w) := by
  obtain ⟨d, rfl⟩ : ∃ d, D = d + 2 := ⟨D - 2, by omega⟩
  cases π with
  | nil => exact absurd A.1 (by decide)
  | cons k π =>
    have h2 : rk k ≤ 3 := A.2
    simp only [List.length_cons] at hl e
    have hk := P.2.1
    rw [S_X11_isAskAhead (lay_MD L _ _ _ _), m_openNow L P hl e (by omega), cI_some, A.1, if_pos (by decide), gI_MD67, e, m1_sub, pk_m1, gI_MD72, ix_nI (by omega), ck_pos ((ib_nIi (by omega)).mpr (by omega)), P.1]
    by_cases c : 40 ≤ k
    · rw [if_neg (by rw [nIl (by omega) (by decide)]; show ¬ k < 40; omega)]
    · have h3 : 1 ≤ rk k := by
        unfold rk
        rw [if_neg c]
        repeat (first | omega | split)
      rw [if_pos (by rw [nIl (by omega) (by decide)]; show k < 40; omega), ck_pos ((ib_nIi (by omega)).mpr (by omega)), m_rnk (lay_MD L _ _ _ _) (by omega) hk, cI_some, S_X11_isIn (lay_MD L _ _ _ _), if_neg (by rw [nIl (by omega) (by decide)]; show ¬ rk k < 1; omega), if_pos (by rw [nIL (by omega) (by decide)]; exact h2), cI_some, if_neg (by decide)]
theorem m_aahN {h : MH} (L : lay h) {a : Nat → Int32} {t : Nat → Int32} {pl : Nat → Int32} {w : Nat → Int64} {π : List Nat} (P : PIL pl π) (hl : π.length ≤ 160) (e : a 16 = nI π.length) {D : Nat} (hD : 3 ≤ D) (A : ¬ aah π) : F_X11_isAskAhead D (MD h a t pl w) = some (.int 0, MD h a t pl w) := by
  obtain ⟨d, rfl⟩ : ∃ d, D = d + 2 := ⟨D - 2, by omega⟩
  rw [S_X11_isAskAhead (lay_MD L _ _ _ _), m_openNow L P hl e (by omega), cI_some]
  by_cases c41 : opw π = 41
  · cases π with
    | nil => exact absurd c41 (by decide)
    | cons k π =>
      have h2 : ¬ rk k ≤ 3 := fun z => A ⟨c41, z⟩
      simp only [List.length_cons] at hl e
      have hk := P.2.1
      have hr : rk k ≤ 7 := by unfold rk; repeat (first | omega | split)
      have c : ¬ 40 ≤ k := by
        intro z
        unfold rk at h2
        rw [if_pos z] at h2
        omega
      rw [c41, if_pos (by decide), gI_MD67, e, m1_sub, pk_m1, gI_MD72, ix_nI (by omega), ck_pos ((ib_nIi (by omega)).mpr (by omega)), P.1, if_pos (by rw [nIl (by omega) (by decide)]; show k < 40; omega), ck_pos ((ib_nIi (by omega)).mpr (by omega)), m_rnk (lay_MD L _ _ _ _) (by omega) hk, cI_some, S_X11_isIn (lay_MD L _ _ _ _), if_neg (by rw [nIl (by omega) (by decide)]; show ¬ rk k < 1; omega), if_neg (by rw [nIL (by omega) (by decide)]; exact h2), cI_some, if_pos rfl]
  · have : ¬ bO (opw π) = 41 := by
      unfold bO
      split
      · decide
      · rename_i z
        rcases ixO_c P with ⟨h1, h2⟩ | ⟨j, h1, h2, h3, h4, h5⟩
        · exact absurd h1 z
        · rw [nIe (by omega) (by decide)]
          exact c41
    rw [if_neg this]
end MPL
section MTK
theorem m_cmpO {h : MH} (L : lay h) {tk : Nat → Nat} {ts : Nat → Nat} {tv : Nat → Nat} {te : Nat → Nat} {a : Nat → Int32} {t : Nat → Int32} {pl : Nat → Int32} {w : Nat → Int64} {p : Nat} (X : LX tk ts tv te a w p) {D : Nat} (hD : 1 ≤ D) : F_X11_compareOf D (MD h a t pl w) = some (.int (bO (cmpO (tk p))), MD h a t pl w) := by
  obtain ⟨d, rfl⟩ : ∃ d, D = d + 1 := ⟨D - 1, by omega⟩
  have lo := tkn_low X.1
  have s60 : a 9 = 60 ↔ tk p = 60 := tkn_sgn X.1 (s := 60) (by decide)
  have s62 : a 9 = 62 ↔ tk p = 62 := tkn_sgn X.1 (s := 62) (by decide)
  have s61 : a 9 = 61 ↔ tk p = 61 := tkn_sgn X.1 (s := 61) (by decide)
  have s35 : a 9 = 35 ↔ tk p = 35 := tkn_sgn X.1 (s := 35) (by decide)
  rw [S_X11_compareOf (lay_MD L _ _ _ _), gI_MD67]
  simp only [s60, s62, s61, s35, lo.2.2.1, lo.2.2.2]
  unfold cmpO bO
  repeat (first | rfl | split)
theorem m_bt {h : MH} (L : lay h) {tk : Nat → Nat} {ts : Nat → Nat} {tv : Nat → Nat} {te : Nat → Nat} {a : Nat → Int32} {t : Nat → Int32} {pl : Nat → Int32} {w : Nat → Int64} {p : Nat} (X : LX tk ts tv te a w p) {π : List Nat} (P : PIL pl π) (hl : π.length ≤ 160) (e : a 16 = nI π.length) {D : Nat} (hD : 8 ≤ D) : F_X11_betweenOf D (MD h a t pl w) = some (.int (bO (bt π (tk p))), MD h a t pl w) := by
  obtain ⟨d, rfl⟩ : ∃ d, D = d + 1 := ⟨D - 1, by omega⟩
  have s43 : a 9 = 43 ↔ tk p = 43 := tkn_sgn X.1 (s := 43) (by decide)
  have s45 : a 9 = 45 ↔ tk p = 45 := tkn_sgn X.1 (s := 45) (by decide)
  have s42 : a 9 = 42 ↔ tk p = 42 := tkn_sgn X.1 (s := 42) (by decide)
  have s47 : a 9 = 47 ↔ tk p = 47 := tkn_sgn X.1 (s := 47) (by decide)
  rw [S_X11_betweenOf (lay_MD L _ _ _ _), gI_MD67]
  unfold bt
  simp only [s43, s45, s42, s47]
  by_cases c1 : tk p = 43
  · rw [if_pos c1, if_pos c1]; rfl
  rw [if_neg c1, if_neg c1]
  by_cases c2 : tk p = 45
  · rw [if_pos c2, if_pos c2]; rfl
  rw [if_neg c2, if_neg c2]
  by_cases c3 : tk p = 42
  · rw [if_pos c3, if_pos c3]; rfl
  rw [if_neg c3, if_neg c3]
  by_cases c4 : tk p = 47
  · rw [if_pos c4, if_pos c4]; rfl
  rw [if_neg c4, if_neg c4, m_openNow L P hl e (by omega), cI_some]
  by_cases c41 : opw π = 41
  · rw [c41, if_pos (show bO 41 = 41 by decide), if_pos rfl, m_cmpd L P hl e (by omega), cI_some]
    by_cases c5 : cmpd π = true
    · rw [if_pos c5, if_pos c5, if_neg (by decide), m_W22 (lay_MD L _ _ _ _) (by omega), cL_some, m_isw L X (by omega) (by decide), cI_some]
      by_cases c6 : tk p = 322
      · rw [if_pos c6, if_pos c6]; rfl
      · rw [if_neg c6, if_neg (show ¬ tk p = 300 + 22 from c6), if_pos rfl, m_W21 (lay_MD L _ _ _ _) (by omega), cL_some, m_isw L X (by omega) (by decide), cI_some]
        by_cases c7 : tk p = 321
        · rw [if_pos c7, if_pos (show tk p = 300 + 21 from c7)]; rfl
        · rw [if_neg c7, if_neg (show ¬ tk p = 300 + 21 from c7)]; rfl
    · rw [if_neg c5, if_neg c5, if_pos rfl, m_cmpO L X (by omega), cI_some]
  · have : ¬ bO (opw π) = 41 := by
      unfold bO
      split
      · decide
      · rename_i z
        rcases ixO_c P with ⟨h1, h2⟩ | ⟨j, h1, h2, h3, h4, h5⟩
        · exact absurd h1 z
        · rw [nIe (by omega) (by decide)]
          exact c41
    rw [if_neg this, if_neg c41]
    rfl
theorem m_pt {h : MH} (L : lay h) {tk : Nat → Nat} {ts : Nat → Nat} {tv : Nat → Nat} {te : Nat → Nat} {a : Nat → Int32} {t : Nat → Int32} {pl : Nat → Int32} {w : Nat → Int64} {p : Nat} (X : LX tk ts tv te a w p) {π : List Nat} (P : PIL pl π) (hl : π.length ≤ 160) (e : a 16 = nI π.length) {D : Nat} (hD : 8 ≤ D) : F_X11_partOf D (bO (opw π)) (MD h a t pl w) = some (.int (ptI (pt π (tk p))), MD h a t pl w) := by
  obtain ⟨d, rfl⟩ : ∃ d, D = d + 1 := ⟨D - 1, by omega⟩
  have s41 : a 9 = 41 ↔ tk p = 41 := tkn_sgn X.1 (s := 41) (by decide)
  rw [S_X11_partOf (lay_MD L _ _ _ _), gI_MD67]
  simp only [s41]
  unfold pt
  have ob : ∀ k, 0 < k → k < 100 → (bO (opw π) = nI k ↔ opw π = k) := by
    intro k h0 hk
    unfold bO
    split
    · rename_i z
      exact ⟨fun q => absurd q.symm (nI_m1 (by omega)), fun q => by omega⟩
    · rename_i z
      rcases ixO_c P with ⟨h1, h2⟩ | ⟨j, h1, h2, h3, h4, h5⟩
      · exact absurd h1 z
      · exact nI_eq (by omega) (by omega)
  have o40 : bO (opw π) = 40 ↔ opw π = 40 := ob 40 (by omega) (by omega)
  have o41 : bO (opw π) = 41 ↔ opw π = 41 := ob 41 (by omega) (by omega)
  have o42 : bO (opw π) = 42 ↔ opw π = 42 := ob 42 (by omega) (by omega)
  have o43 : bO (opw π) = 43 ↔ opw π = 43 := ob 43 (by omega) (by omega)
  by_cases c1 : opw π = 40
  · rw [if_pos (o40.mpr c1), if_pos c1]
    by_cases z : tk p = 41
    · rw [if_pos z, if_pos z]; rfl
    · rw [if_neg z, if_neg z]; rfl
  rw [if_neg (fun q => c1 (o40.mp q)), if_neg c1]
  by_cases c2 : opw π = 41
  · rw [if_pos (o41.mpr c2), if_pos c2, m_W18 (lay_MD L _ _ _ _) (by omega), cL_some, m_isw L X (by omega) (by decide), cI_some]
    by_cases z : tk p = 318
    · rw [if_pos (show tk p = 300 + 18 from z), if_neg (by decide), m_cmpd L P hl e (by omega), cI_some]
      by_cases z2 : cmpd π = true
      · rw [if_pos z2, if_neg (by decide), if_pos ⟨z, z2⟩]; rfl
      · rw [if_neg z2, if_pos rfl, if_neg (fun q => z2 q.2)]; rfl
    · rw [if_neg (show ¬ tk p = 300 + 18 from z), if_pos rfl, if_neg (fun q => z q.1)]; rfl
  rw [if_neg (fun q => c2 (o41.mp q)), if_neg c2]
  by_cases c3 : opw π = 42
  · rw [if_pos (o42.mpr c3), if_pos c3, m_W19 (lay_MD L _ _ _ _) (by omega), cL_some, m_isw L X (by omega) (by decide), cI_some]
    by_cases z : tk p = 319
    · rw [if_pos (show tk p = 300 + 19 from z), if_neg (by decide), if_pos z]; rfl
    · rw [if_neg (show ¬ tk p = 300 + 19 from z), if_pos rfl, if_neg z]; rfl
  rw [if_neg (fun q => c3 (o42.mp q)), if_neg c3]
  by_cases c4 : opw π = 43
  · rw [if_pos (o43.mpr c4), if_pos c4, m_W20 (lay_MD L _ _ _ _) (by omega), cL_some, m_isw L X (by omega) (by decide), cI_some]
    by_cases z : tk p = 320
    · rw [if_pos (show tk p = 300 + 20 from z), if_neg (by decide), if_pos z]; rfl
    · rw [if_neg (show ¬ tk p = 300 + 20 from z), if_pos rfl, if_neg z]; rfl
  rw [if_neg (fun q => c4 (o43.mp q)), if_neg c4]
  rfl
theorem m_nmof {h : MH} (L : lay h) {tk : Nat → Nat} {ts : Nat → Nat} {tv : Nat → Nat} {te : Nat → Nat} {a : Nat → Int32} {t : Nat → Int32} {pl : Nat → Int32} {w : Nat → Int64} {p : Nat} (X : LX tk ts tv te a w p) {D : Nat} (hD : 7 ≤ D) : F_X11_nameOf D (MD h a t pl w) = some (.int (if 307 ≤ tk p ∧ tk p ≤ 313 then nI (tk p - 307) else -1), MD h a t pl w) := by
  obtain ⟨d, rfl⟩ : ∃ d, D = d + 1 := ⟨D - 1, by omega⟩
  have wd : ∀ i, i < 24 → ((a 9 = 2 ∧ w 11 = WV i) ↔ tk p = 300 + i) := fun i hi => tkn_word X.1 hi
  rw [S_X11_nameOf (lay_MD L _ _ _ _), gI_MD67, gL_MD]
  by_cases c2 : a 9 = 2
  · rw [if_pos c2]
    have wi : ∀ i, i < 24 → ((lg_cmp (w 11) (WV i) = 0) = (tk p = 300 + i)) := fun i hi => propext ⟨fun z => (wd i hi).mp ⟨c2, (lg_cmp_eq _ _).mp z⟩, fun z => (lg_cmp_eq _ _).mpr ((wd i hi).mpr z).2⟩
    simp (disch := omega) only [gL_MD, m_W7 (lay_MD L _ _ _ _), m_W8 (lay_MD L _ _ _ _), m_W9 (lay_MD L _ _ _ _), m_W10 (lay_MD L _ _ _ _), m_W11 (lay_MD L _ _ _ _), m_W12 (lay_MD L _ _ _ _), m_W13 (lay_MD L _ _ _ _), cL_some, wi]
    by_cases b : 307 ≤ tk p ∧ tk p ≤ 313
    · rw [if_pos b]
      have : tk p = 307 ∨ tk p = 308 ∨ tk p = 309 ∨ tk p = 310 ∨ tk p = 311 ∨ tk p = 312 ∨ tk p = 313 := by omega
      rcases this with z | z | z | z | z | z | z <;> rw [z] <;> rfl
    · rw [if_neg b, if_neg (by omega), if_neg (by omega), if_neg (by omega), if_neg (by omega), if_neg (by omega), if_neg (by omega), if_neg (by omega)]
  · rw [if_neg c2, if_neg]
    intro z
    obtain ⟨i, hi⟩ : ∃ i, tk p = 300 + i := ⟨tk p - 300, by omega⟩
    exact c2 ((wd i (by omega)).mpr hi).1
end MTK
