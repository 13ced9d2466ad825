--deps:19.lay 21.facts 22.00.names 22.01.eq 22.02.eq 22.03.eq 22.04.eq 22.05.eq 22.06.eq 22.07.eq 22.08.eq 22.09.eq 22.10.eq 22.11.eq 22.12.eq 22.13.eq 22.14.eq 22.15.eq 22.16.eq 22.17.eq 22.18.eq 22.19.eq 22.20.eq 22.21.eq 22.22.eq 22.23.eq 23.num 24.town 25.evc 26.evm 27.law 28.says 29.inv 71.yard 72.yard2 73.gx 74.gx2 75.gx3 76.reader 79.mtok 80.mpile 81.myard 82.msum 85.lexm
/-! THE REFERENCE'S NEXT TOKEN -/
set_option linter.unusedSectionVars false
def sgM (b : Nat) : Nat := if b ∈ [35, 40, 41, 42, 43, 45, 47, 58, 59, 60, 61, 62] then 1 else 0
theorem m_sign {h : MH} (L : lay h) {D b : Nat} (hD : 1 ≤ D) (hb : b < 256) : F_X11_isSign D (nI b) h = some (.int (nI (sgM b)), h) := by
  obtain ⟨d, rfl⟩ : ∃ d, D = d + 1 := ⟨D - 1, by omega⟩
  rw [S_X11_isSign L]
  by_cases c35 : b = 35
  · subst c35; rfl
  rw [if_neg (by rw [nIe (by omega) (by decide)]; exact c35)]
  by_cases c36 : b = 36
  · subst c36; rfl
  rw [if_neg (by rw [nIe (by omega) (by decide)]; exact c36)]
  by_cases c37 : b = 37
  · subst c37; rfl
  rw [if_neg (by rw [nIe (by omega) (by decide)]; exact c37)]
  by_cases c38 : b = 38
  · subst c38; rfl
  rw [if_neg (by rw [nIe (by omega) (by decide)]; exact c38)]
  by_cases c39 : b = 39
  · subst c39; rfl
  rw [if_neg (by rw [nIe (by omega) (by decide)]; exact c39)]
  by_cases c40 : b = 40
  · subst c40; rfl
  rw [if_neg (by rw [nIe (by omega) (by decide)]; exact c40)]
  by_cases c41 : b = 41
  · subst c41; rfl
  rw [if_neg (by rw [nIe (by omega) (by decide)]; exact c41)]
  by_cases c42 : b = 42
  · subst c42; rfl
  rw [if_neg (by rw [nIe (by omega) (by decide)]; exact c42)]
  by_cases c43 : b = 43
  · subst c43; rfl
  rw [if_neg (by rw [nIe (by omega) (by decide)]; exact c43)]
  by_cases c44 : b = 44
  · subst c44; rfl
  rw [if_neg (by rw [nIe (by omega) (by decide)]; exact c44)]
  by_cases c45 : b = 45
  · subst c45; rfl
  rw [if_neg (by rw [nIe (by omega) (by decide)]; exact c45)]
  by_cases c46 : b = 46
  · subst c46; rfl
  rw [if_neg (by rw [nIe (by omega) (by decide)]; exact c46)]
  by_cases c47 : b = 47
  · subst c47; rfl
  rw [if_neg (by rw [nIe (by omega) (by decide)]; exact c47)]
  by_cases c48 : b = 48
  · subst c48; rfl
  rw [if_neg (by rw [nIe (by omega) (by decide)]; exact c48)]
  by_cases c49 : b = 49
  · subst c49; rfl
  rw [if_neg (by rw [nIe (by omega) (by decide)]; exact c49)]
  by_cases c50 : b = 50
  · subst c50; rfl
  rw [if_neg (by rw [nIe (by omega) (by decide)]; exact c50)]
  by_cases c51 : b = 51
  · subst c51; rfl
  rw [if_neg (by rw [nIe (by omega) (by decide)]; exact c51)]
  by_cases c52 : b = 52
  · subst c52; rfl
  rw [if_neg (by rw [nIe (by omega) (by decide)]; exact c52)]
  by_cases c53 : b = 53
  · subst c53; rfl
  rw [if_neg (by rw [nIe (by omega) (by decide)]; exact c53)]
  by_cases c54 : b = 54
  · subst c54; rfl
  rw [if_neg (by rw [nIe (by omega) (by decide)]; exact c54)]
  by_cases c55 : b = 55
  · subst c55; rfl
  rw [if_neg (by rw [nIe (by omega) (by decide)]; exact c55)]
  by_cases c56 : b = 56
  · subst c56; rfl
  rw [if_neg (by rw [nIe (by omega) (by decide)]; exact c56)]
  by_cases c57 : b = 57
  · subst c57; rfl
  rw [if_neg (by rw [nIe (by omega) (by decide)]; exact c57)]
  by_cases c58 : b = 58
  · subst c58; rfl
  rw [if_neg (by rw [nIe (by omega) (by decide)]; exact c58)]
  by_cases c59 : b = 59
  · subst c59; rfl
  rw [if_neg (by rw [nIe (by omega) (by decide)]; exact c59)]
  by_cases c60 : b = 60
  · subst c60; rfl
  rw [if_neg (by rw [nIe (by omega) (by decide)]; exact c60)]
  by_cases c61 : b = 61
  · subst c61; rfl
  rw [if_neg (by rw [nIe (by omega) (by decide)]; exact c61)]
  by_cases c62 : b = 62
  · subst c62; rfl
  rw [if_neg (by rw [nIe (by omega) (by decide)]; exact c62)]
  have : sgM b = 0 := by
    unfold sgM
    rw [if_neg]
    simp
    omega
  rw [this]
  rfl
theorem m_fig {h : MH} (L : lay h) {D b : Nat} (hD : 1 ≤ D) (hb : b < 256) : F_X11_isFigure D (nI b) h = some (.int (if 48 ≤ b ∧ b ≤ 57 then 1 else 0), h) := by
  obtain ⟨d, rfl⟩ : ∃ d, D = d + 1 := ⟨D - 1, by omega⟩
  rw [S_X11_isFigure L]
  by_cases c1 : b < 48
  · rw [if_pos (by rw [nIl (by omega) (by decide)]; exact c1), if_neg (by omega)]
  rw [if_neg (by rw [nIl (by omega) (by decide)]; exact c1)]
  by_cases c2 : b ≤ 57
  · rw [if_pos (by rw [nIL (by omega) (by decide)]; exact c2), if_pos (by omega)]
  · rw [if_neg (by rw [nIL (by omega) (by decide)]; exact c2), if_neg (by omega)]
theorem m_figN {h : MH} (L : lay h) {D : Nat} (hD : 1 ≤ D) : F_X11_isFigure D (-1) h = some (.int 0, h) := by
  obtain ⟨d, rfl⟩ : ∃ d, D = d + 1 := ⟨D - 1, by omega⟩
  rw [S_X11_isFigure L, if_pos (by decide)]
theorem m_ltr {h : MH} (L : lay h) {D b : Nat} (hD : 1 ≤ D) (hb : b < 256) : F_X11_isLetterByte D (nI b) h = some (.int (if 97 ≤ b ∧ b ≤ 122 ∨ 65 ≤ b ∧ b ≤ 90 then 1 else 0), h) := by
  obtain ⟨d, rfl⟩ : ∃ d, D = d + 1 := ⟨D - 1, by omega⟩
  have e6 : ¬ (97 ≤ b ∧ b ≤ 122) → G_X11_isLetterByte_6 d (nI b) h = some (.int (if 97 ≤ b ∧ b ≤ 122 ∨ 65 ≤ b ∧ b ≤ 90 then 1 else 0), h) := by
    intro z
    rw [S_X11_isLetterByte_6 L]
    by_cases c1 : b < 65
    · rw [if_pos (by rw [nIl (by omega) (by decide)]; exact c1), if_neg (by omega)]
    rw [if_neg (by rw [nIl (by omega) (by decide)]; exact c1)]
    by_cases c2 : b ≤ 90
    · rw [if_pos (by rw [nIL (by omega) (by decide)]; exact c2), if_pos (by omega)]
    · rw [if_neg (by rw [nIL (by omega) (by decide)]; exact c2), if_neg (by omega)]
  rw [S_X11_isLetterByte L]
  by_cases c1 : b < 97
  · rw [if_pos (by rw [nIl (by omega) (by decide)]; exact c1), e6 (by omega)]
  rw [if_neg (by rw [nIl (by omega) (by decide)]; exact c1)]
  by_cases c2 : b ≤ 122
  · rw [if_pos (by rw [nIL (by omega) (by decide)]; exact c2), if_pos (by omega)]
  · rw [if_neg (by rw [nIL (by omega) (by decide)]; exact c2), e6 (by omega)]
theorem m_ltrN {h : MH} (L : lay h) {D : Nat} (hD : 1 ≤ D) : F_X11_isLetterByte D (-1) h = some (.int 0, h) := by
  obtain ⟨d, rfl⟩ : ∃ d, D = d + 1 := ⟨D - 1, by omega⟩
  rw [S_X11_isLetterByte L, if_pos (by decide), S_X11_isLetterByte_6 L, if_pos (by decide)]
theorem sub48 {y : Nat} (h : 48 ≤ y) : nI y - 48 = nI (y - 48) := by
  rw [nI_zI, nI_zI, show (48 : Int32) = zI 48 from lit_zI 48, zI_sub]
  congr 1
  omega
section LXM
theorem m_byt {h : MH} (L : lay h) {by_ : Nat → Nat} {len : Nat} (hl : len ≤ 300) (hb : ∀ j, j < 300 → gI h 71 j = nI (by_ j) ∧ by_ j < 256) {t : Nat → Int32} {pl : Nat → Int32} {D : Nat} (hD : 1 ≤ D) {a : Nat → Int32} {w : Nat → Int64} (e4 : a 4 = nI len) {x : Nat} (hx : x ≤ 300) : F_X11_byteAt D (nI x) (MD h a t pl w) = some (.int (if x < len then nI (by_ x) else -1), MD h a t pl w) := by
  obtain ⟨d, rfl⟩ : ∃ d, D = d + 1 := ⟨D - 1, by omega⟩
  rw [S_X11_byteAt (lay_MD L _ _ _ _), gI_MD67, e4]
  by_cases c : x < len
  · rw [if_pos (by rw [nI_ltI (by omega) (by omega)]; exact c), if_pos c, ck_pos ((ib_nIi (by omega)).mpr (by omega)), gI_MDo _ _ _ _ _ (by decide) (by decide) (by decide), ix_nI (by omega), (hb x (by omega)).1]
  · rw [if_neg (by rw [nI_ltI (by omega) (by omega)]; exact c), if_neg c]
theorem m_nt43 {h : MH} (L : lay h) {by_ : Nat → Nat} {len : Nat} (hl : len ≤ 300) (hb : ∀ j, j < 300 → gI h 71 j = nI (by_ j) ∧ by_ j < 256) {t : Nat → Int32} {pl : Nat → Int32} {D : Nat} (hD : 1 ≤ D) {w : Nat → Int64} {s e : Nat} (R : RUNT isD by_ len s e) (l1 : Int32) : ∀ (r x : Nat) (a : Nat → Int32), x + r = e → s ≤ x → a 7 = nI x → a 4 = nI len → a 10 = nI (mNu by_ s (x - s)) → ∃ a', G_X11_nextToken_43 D l1 (MD h a t pl w) = some (.int 0, MD h a' t pl w) ∧ a' 7 = nI e ∧ a' 10 = nI (mNu by_ s (e - s)) ∧ ∀ k, ¬ k = 7 → ¬ k = 10 → a' k = a k := by
  obtain ⟨R1, R2, R3, R4⟩ := R
  intro r
  induction r with
  | zero =>
    intro x a he hs e7 e4 e10
    have hx : x = e := by omega
    subst hx
    refine ⟨a, ?_, e7, e10, fun _ _ _ => rfl⟩
    rw [S_X11_nextToken_43 (lay_MD L _ _ _ _), gI_MD67, e7, m_byt L hl hb hD e4 (by omega), cI_some]
    by_cases c : x < len
    · have := (hb x (by omega)).2
      rw [if_pos c, m_fig (lay_MD L _ _ _ _) hD this, cI_some, if_neg (R4 c), if_pos rfl]
    · rw [if_neg c, m_figN (lay_MD L _ _ _ _) hD, cI_some, if_pos rfl]
  | succ r ih =>
    intro x a he hs e7 e4 e10
    have hd := R3 x hs (by omega)
    have hb2 := (hb x (by omega)).2
    have bd := (mNu_bd (by_ := by_) (s := s) (x - s) (fun j hj => R3 _ (by omega) (by omega))).1
    have go : ∀ v, nI v = nI (mNu by_ s (x + 1 - s)) → ∃ a', G_X11_nextToken_68 D l1 (nI v) (MD h a t pl w) = some (.int 0, MD h a' t pl w) ∧ a' 7 = nI e ∧ a' 10 = nI (mNu by_ s (e - s)) ∧ ∀ k, ¬ k = 7 → ¬ k = 10 → a' k = a k := by
      intro v hv
      have e7' : va_up a 10 (nI v) 7 = nI x := e7
      obtain ⟨a', q1, q2, q3, q4⟩ := ih (x + 1) (va_up (va_up a 10 (nI v)) 7 (nI (x + 1))) (by omega) (by omega) (va_same _ _ _) e4 (by rw [va_ne _ _ (by decide), va_same, hv])
      refine ⟨a', ?_, q2, q3, fun k k1 k2 => by rw [q4 k k1 k2, va_ne _ _ k1, va_ne _ _ k2]⟩
      rw [S_X11_nextToken_68 (lay_MD L _ _ _ _), sI_MD67, lt_def, gI_MD67, e7', nI_1, sI_MD67, lt_def, q1]
    have es : x + 1 - s = (x - s) + 1 := by omega
    rw [S_X11_nextToken_43 (lay_MD L _ _ _ _), gI_MD67, e7, m_byt L hl hb hD e4 (by omega), cI_some, if_pos (by omega), m_fig (lay_MD L _ _ _ _) hD hb2, cI_some, if_pos hd, if_neg (by decide), gI_MD67, e10]
    by_cases c : mNu by_ s (x - s) ≤ 99999
    · rw [if_pos (by rw [nIL (by omega) (by decide)]; exact c), e7, m_byt L hl hb hD e4 (by omega), cI_some, if_pos (by omega), nIm, nI_add, sub48 (by have := hd.1; show 48 ≤ 10 * mNu by_ s (x - s) + by_ x; omega)]
      refine go _ ?_
      rw [es, mNu, if_neg (by omega), show s + (x - s) = x by omega]
      have := hd.1
      congr 1
      show 10 * mNu by_ s (x - s) + by_ x - 48 = 10 * mNu by_ s (x - s) + (by_ x - 48)
      omega
    · rw [if_neg (by rw [nIL (by omega) (by decide)]; exact c)]
      refine go _ ?_
      rw [es, mNu, if_pos (by omega)]
theorem m_nt85 {h : MH} (L : lay h) {by_ : Nat → Nat} {len : Nat} (hl : len ≤ 300) (hb : ∀ j, j < 300 → gI h 71 j = nI (by_ j) ∧ by_ j < 256) {t : Nat → Int32} {pl : Nat → Int32} {D : Nat} (hD : 1 ≤ D) {s e : Nat} (R : RUNT isL by_ len s e) (l1 : Int32) : ∀ (r x : Nat) (a : Nat → Int32) (w : Nat → Int64), x + r = e → s ≤ x → a 7 = nI x → a 4 = nI len → w 11 = lN (wNu by_ s (x - s)) → ∃ a' w', G_X11_nextToken_85 D l1 (MD h a t pl w) = some (.int 0, MD h a' t pl w') ∧ a' 7 = nI e ∧ w' 11 = lN (wNu by_ s (e - s)) ∧ ∀ k, ¬ k = 7 → a' k = a k := by
  obtain ⟨R1, R2, R3, R4⟩ := R
  intro r
  induction r with
  | zero =>
    intro x a w he hs e7 e4 e11
    have hx : x = e := by omega
    subst hx
    refine ⟨a, w, ?_, e7, e11, fun _ _ => rfl⟩
    rw [S_X11_nextToken_85 (lay_MD L _ _ _ _), gI_MD67, e7, m_byt L hl hb hD e4 (by omega), cI_some]
    by_cases c : x < len
    · have := (hb x (by omega)).2
      rw [if_pos c, m_ltr (lay_MD L _ _ _ _) hD this, cI_some, if_neg (R4 c), if_pos rfl]
    · rw [if_neg c, m_ltrN (lay_MD L _ _ _ _) hD, cI_some, if_pos rfl]
  | succ r ih =>
    intro x a w he hs e7 e4 e11
    have hd := R3 x hs (by omega)
    have hb2 := (hb x (by omega)).2
    have bd := wNu_lt (by_ := by_) (s := s) (n := x - s) (fun j hj => by
      have q := R3 (s + j) (by omega) (by omega)
      unfold isL at q
      omega)
    have go : ∀ v, lN v = lN (wNu by_ s (x + 1 - s)) → ∃ a' w', G_X11_nextToken_111 D l1 (lN v) (MD h a t pl w) = some (.int 0, MD h a' t pl w') ∧ a' 7 = nI e ∧ w' 11 = lN (wNu by_ s (e - s)) ∧ ∀ k, ¬ k = 7 → a' k = a k := by
      intro v hv
      obtain ⟨a', w', q1, q2, q3, q4⟩ := ih (x + 1) (va_up a 7 (nI (x + 1))) (va_up w 11 (lN v)) (by omega) (by omega) (va_same _ _ _) e4 (by rw [va_same, hv])
      refine ⟨a', w', ?_, q2, q3, fun k k1 => by rw [q4 k k1, va_ne _ _ k1]⟩
      rw [S_X11_nextToken_111 (lay_MD L _ _ _ _), sL_MD, lt_def, gI_MD67, e7, nI_1, sI_MD67, lt_def, q1]
    have es : x + 1 - s = (x - s) + 1 := by omega
    rw [S_X11_nextToken_85 (lay_MD L _ _ _ _), gI_MD67, e7, m_byt L hl hb hD e4 (by omega), cI_some, if_pos (by omega), m_ltr (lay_MD L _ _ _ _) hD hb2, cI_some, if_pos hd, if_neg (by decide), gL_MD, e11]
    by_cases c : wNu by_ s (x - s) / 281474976710656 = 0
    · rw [if_pos ((shr48 bd).mpr c), gI_MD67, e7, m_byt L hl hb hD e4 (by omega), cI_some, if_pos (by omega), shl8 c hb2]
      refine go _ ?_
      rw [es, wNu, if_pos c, show s + (x - s) = x by omega]
    · rw [if_neg (fun z => c ((shr48 bd).mp z))]
      refine go 1152921504606846976 ?_
      rw [es, wNu, if_neg c]
/-- the token at s -/
theorem m_ntS {h : MH} (L : lay h) {by_ : Nat → Nat} {len : Nat} (hl : len ≤ 300) (hb : ∀ j, j < 300 → gI h 71 j = nI (by_ j) ∧ by_ j < 256) {t : Nat → Int32} {pl : Nat → Int32} {D : Nat} (hD : 1 ≤ D) {a : Nat → Int32} {w : Nat → Int64} {s e k v : Nat} (hs : s ≤ len) (hB : s < len → ¬ isB (by_ s)) (K : TOKS by_ len s e k v) (e7 : a 7 = nI s) (e4 : a 4 = nI len) : ∃ a' w', G_X11_nextToken_0 D (MD h a t pl w) = some (.int 0, MD h a' t pl w') ∧ a' 7 = nI e ∧ a' 8 = nI s ∧ TKN (a' 9) (w' 11) k ∧ (k = 258 → ∃ x, a' 10 = nI x ∧ x < 2000000 ∧ v = min x 10000) ∧ ∀ j, ¬ j = 7 → ¬ j = 8 → ¬ j = 9 → ¬ j = 10 → a' j = a j := by
  have nb : ¬ (if s < len then nI (by_ s) else -1) = 32 ∧ ¬ (if s < len then nI (by_ s) else -1) = 10 := by
    by_cases c : s < len
    · have h1 := hB c
      have h2 := (hb s (by omega)).2
      unfold isB at h1
      rw [if_pos c, nIe (by omega) (by decide), nIe (by omega) (by decide)]
      exact ⟨fun z => h1 (Or.inl z), fun z => h1 (Or.inr z)⟩
    · rw [if_neg c]; decide
  rw [S_X11_nextToken_0 (lay_MD L _ _ _ _), gI_MD67, e7, m_byt L hl hb hD e4 (by omega), cI_some, if_neg nb.1, gI_MD67, e7, m_byt L hl hb hD e4 (by omega), cI_some, if_neg nb.2, gI_MD67, e7, sI_MD67, lt_def, gI_MD67]
  have e7' : va_up a 8 (nI s) 7 = nI s := e7
  have e4' : va_up a 8 (nI s) 4 = nI len := e4
  rw [e7', m_byt L hl hb hD e4' (by omega), cI_some]
  rcases K with ⟨k1, k2, k3⟩ | ⟨k1, k2, k3, k4, k5⟩ | ⟨k1, k2, k3, k4⟩ | ⟨k1, ⟨k2, k3⟩, k4⟩
  · rw [show (if s < len then nI (by_ s) else -1) = -1 from if_neg (by omega), if_pos (by decide), sI_MD67, lt_def]
    refine ⟨_, w, rfl, by rw [k2, ← k1]; exact e7, rfl, Or.inl ⟨k3, rfl⟩, fun z => by omega, fun j j1 j2 j3 j4 => by rw [va_ne _ _ j3, va_ne _ _ j2]⟩
  · have h2 := (hb s (by omega)).2
    rw [if_pos k1, if_neg (nIz (by omega)), m_fig (lay_MD L _ _ _ _) hD h2, cI_some, if_pos k2, if_neg (by decide), sI_MD67, lt_def, sI_MD67, lt_def]
    obtain ⟨a', q1, q2, q3, q4⟩ := m_nt43 L hl hb (t := t) (pl := pl) hD (w := w) k3 (nI (by_ s)) (e - s) s (va_up (va_up (va_up a 8 (nI s)) 9 1) 10 0) (by have := k3.1; omega) (Nat.le_refl _) e7 e4 (by rw [va_same, Nat.sub_self]; rfl)
    have bd := mNu_bd (by_ := by_) (s := s) (e - s) (fun j hj => k3.2.2.1 _ (by omega) (by omega))
    refine ⟨a', w, q1, q2, by rw [q4 8 (by decide) (by decide)]; rfl, Or.inr (Or.inl ⟨k4, by rw [q4 9 (by decide) (by decide)]; rfl⟩), fun _ => ⟨_, q3, by omega, by rw [k5]; exact bd.2⟩, fun j j1 j2 j3 j4 => by rw [q4 j j1 j4, va_ne _ _ j4, va_ne _ _ j3, va_ne _ _ j2]⟩
  · have h2 := (hb s (by omega)).2
    have nd : ¬ (48 ≤ by_ s ∧ by_ s ≤ 57) := by unfold isL at k2; omega
    rw [if_pos k1, if_neg (nIz (by omega)), m_fig (lay_MD L _ _ _ _) hD h2, cI_some, if_neg nd, if_pos rfl, m_ltr (lay_MD L _ _ _ _) hD h2, cI_some, if_pos k2, if_neg (by decide), sI_MD67, lt_def, sL_MD, lt_def]
    obtain ⟨a', w', q1, q2, q3, q4⟩ := m_nt85 L hl hb (t := t) (pl := pl) hD k3 (nI (by_ s)) (e - s) s (va_up (va_up a 8 (nI s)) 9 2) (va_up w 11 0) (by have := k3.1; omega) (Nat.le_refl _) e7 e4 (by rw [va_same, Nat.sub_self]; rfl)
    have hL : ∀ j, j < e - s → 1 ≤ by_ (s + j) ∧ by_ (s + j) < 256 := fun j hj => by
      have q := k3.2.2.1 (s + j) (by omega) (by omega)
      unfold isL at q
      omega
    have e9 : a' 9 = 2 := by rw [q4 9 (by decide)]; rfl
    refine ⟨a', w', q1, q2, by rw [q4 8 (by decide)]; rfl, ?_, fun z => ?_, fun j j1 j2 j3 j4 => by rw [q4 j j1, va_ne _ _ j3, va_ne _ _ j2]⟩
    · rcases k4 with ⟨i, i1, i2, i3⟩ | ⟨i1, i2⟩
      · exact Or.inr (Or.inr (Or.inl ⟨i, i1, i2, e9, by rw [q3]; exact (wrd_v i1 hL).mpr i3⟩))
      · exact Or.inr (Or.inr (Or.inr (Or.inl ⟨i1, Or.inr (Or.inr ⟨e9, fun i hi z => i2 i hi ((wrd_v hi hL).mp (q3 ▸ z))⟩)⟩)))
    · rcases k4 with ⟨i, i1, i2, i3⟩ | ⟨i1, i2⟩ <;> omega
  · have h2 := (hb s (by omega)).2
    rw [if_pos k1, if_neg (nIz (by omega)), m_fig (lay_MD L _ _ _ _) hD h2, cI_some, if_neg k2, if_pos rfl, m_ltr (lay_MD L _ _ _ _) hD h2, cI_some, if_neg k3, if_pos rfl, m_sign (lay_MD L _ _ _ _) hD h2, cI_some]
    have e126 : (if nI (sgM (by_ s)) = 0 then G_X11_nextToken_126 D (nI (by_ s)) 3 (MD h (va_up a 8 (nI s)) t pl w) else G_X11_nextToken_126 D (nI (by_ s)) (nI (by_ s)) (MD h (va_up a 8 (nI s)) t pl w)) = G_X11_nextToken_126 D (nI (by_ s)) (if sgM (by_ s) = 0 then 3 else nI (by_ s)) (MD h (va_up a 8 (nI s)) t pl w) := by
      have : sgM (by_ s) = 0 ∨ sgM (by_ s) = 1 := by unfold sgM; split <;> omega
      rcases this with z | z <;> rw [z] <;> rfl
    rw [e126, S_X11_nextToken_126 (lay_MD L _ _ _ _), sI_MD67, lt_def, gI_MD67]
    have e7'' : va_up (va_up a 8 (nI s)) 9 (if sgM (by_ s) = 0 then 3 else nI (by_ s)) 7 = nI s := e7
    rw [e7'', nI_1, sI_MD67, lt_def]
    have e8v : ∀ y, va_up (va_up (va_up a 8 (nI s)) 9 y) 7 (nI (s + 1)) 8 = nI s := fun _ => rfl
    have oth : ∀ y j, ¬ j = 7 → ¬ j = 8 → ¬ j = 9 → va_up (va_up (va_up a 8 (nI s)) 9 y) 7 (nI (s + 1)) j = a j := fun y j j1 j2 j3 => by rw [va_ne _ _ j1, va_ne _ _ j3, va_ne _ _ j2]
    have e139 : (if nI (by_ s) = 60 then G_X11_nextToken_139 D (nI (by_ s)) (MD h (va_up (va_up (va_up a 8 (nI s)) 9 (if sgM (by_ s) = 0 then 3 else nI (by_ s))) 7 (nI (s + 1))) t pl w) else if nI (by_ s) = 62 then G_X11_nextToken_139 D (nI (by_ s)) (MD h (va_up (va_up (va_up a 8 (nI s)) 9 (if sgM (by_ s) = 0 then 3 else nI (by_ s))) 7 (nI (s + 1))) t pl w) else some (Value.int 0, MD h (va_up (va_up (va_up a 8 (nI s)) 9 (if sgM (by_ s) = 0 then 3 else nI (by_ s))) 7 (nI (s + 1))) t pl w)) = (if by_ s = 60 ∨ by_ s = 62 then G_X11_nextToken_139 D (nI (by_ s)) (MD h (va_up (va_up (va_up a 8 (nI s)) 9 (if sgM (by_ s) = 0 then 3 else nI (by_ s))) 7 (nI (s + 1))) t pl w) else some (Value.int 0, MD h (va_up (va_up (va_up a 8 (nI s)) 9 (if sgM (by_ s) = 0 then 3 else nI (by_ s))) 7 (nI (s + 1))) t pl w)) := by
      by_cases c1 : by_ s = 60
      · rw [if_pos (by rw [c1]; rfl), if_pos (Or.inl c1)]
      · rw [if_neg (by rw [nIe (by omega) (by decide)]; exact c1)]
        by_cases c2 : by_ s = 62
        · rw [if_pos (by rw [c2]; rfl), if_pos (Or.inr c2)]
        · rw [if_neg (by rw [nIe (by omega) (by decide)]; exact c2), if_neg (show ¬ (by_ s = 60 ∨ by_ s = 62) by omega)]
    rw [e139]
    have tk1 : ¬ k = 258 := by
      rcases k4 with ⟨o1, o2, o3⟩ | ⟨o1, o2, o3⟩ <;> omega
    have fin1 : ¬ orL by_ len s → (e = s + 1 ∧ TKN (if sgM (by_ s) = 0 then 3 else nI (by_ s)) (w 11) k) := by
      intro z
      rcases k4 with ⟨o1, o2, o3⟩ | ⟨o1, o2, o3⟩
      · exact absurd o1 z
      · refine ⟨o2, ?_⟩
        rcases o3 with ⟨p1, p2⟩ | ⟨p1, p2⟩
        · have : ¬ sgM (by_ s) = 0 := by
            rcases sgnT_c p1 with z | z | z | z | z | z | z | z | z | z | z <;> rw [z] <;> decide
          rw [if_neg this]
          refine Or.inr (Or.inr (Or.inr (Or.inr (Or.inr (Or.inr ⟨p2 ▸ p1, by rw [p2]⟩)))))
        · refine Or.inr (Or.inr (Or.inr (Or.inl ⟨p2, ?_⟩)))
          by_cases c58 : by_ s = 58
          · rw [c58]; exact Or.inr (Or.inl (by decide))
          · have : sgM (by_ s) = 0 := by
              unfold sgM
              rw [if_neg]
              intro z
              apply p1
              unfold sgnT
              simp at z ⊢
              omega
            rw [if_pos this]
            exact Or.inl rfl
    by_cases c1 : by_ s = 60 ∨ by_ s = 62
    · have e7b : va_up (va_up (va_up a 8 (nI s)) 9 (if sgM (by_ s) = 0 then 3 else nI (by_ s))) 7 (nI (s + 1)) 7 = nI (s + 1) := va_same _ _ _
      have e4b : va_up (va_up (va_up a 8 (nI s)) 9 (if sgM (by_ s) = 0 then 3 else nI (by_ s))) 7 (nI (s + 1)) 4 = nI len := e4
      rw [if_pos c1, S_X11_nextToken_139 (lay_MD L _ _ _ _), gI_MD67, e7b, m_byt L hl hb hD e4b (by omega), cI_some]
      by_cases c2 : s + 1 < len ∧ by_ (s + 1) = 61
      · have oL : orL by_ len s := ⟨c1, c2.1, c2.2⟩
        rw [if_pos c2.1, c2.2, if_pos (by decide)]
        rcases k4 with ⟨o1, o2, o3⟩ | ⟨o1, o2, o3⟩
        · rcases o3 with ⟨p1, p2⟩ | ⟨p1, p2⟩
          · rw [p1, if_pos (by decide), S_X11_nextToken_152 (lay_MD L _ _ _ _), sI_MD67, lt_def, gI_MD67]
            refine ⟨_, w, by rw [sI_MD67, lt_def], ?_, rfl, Or.inr (Or.inr (Or.inr (Or.inr (Or.inl ⟨p2, rfl⟩)))), fun z => absurd z tk1, fun j j1 j2 j3 j4 => ?_⟩
            · rw [va_same, va_ne _ _ (by decide), va_same, nI_1, o2]
            · rw [va_ne _ _ j1, va_ne _ _ j3, va_ne _ _ j1, va_ne _ _ j3, va_ne _ _ j2]
          · rw [p1, if_neg (by decide), S_X11_nextToken_152 (lay_MD L _ _ _ _), sI_MD67, lt_def, gI_MD67]
            refine ⟨_, w, by rw [sI_MD67, lt_def], ?_, rfl, Or.inr (Or.inr (Or.inr (Or.inr (Or.inr (Or.inl ⟨p2, rfl⟩))))), fun z => absurd z tk1, fun j j1 j2 j3 j4 => ?_⟩
            · rw [va_same, va_ne _ _ (by decide), va_same, nI_1, o2]
            · rw [va_ne _ _ j1, va_ne _ _ j3, va_ne _ _ j1, va_ne _ _ j3, va_ne _ _ j2]
        · exact absurd oL o1
      · have ne : ¬ (if s + 1 < len then nI (by_ (s + 1)) else -1) = 61 := by
          by_cases c3 : s + 1 < len
          · have h3 := (hb (s + 1) (by omega)).2
            rw [if_pos c3, nIe (by omega) (by decide)]
            exact fun z => c2 ⟨c3, z⟩
          · rw [if_neg c3]; decide
        rw [if_neg ne]
        obtain ⟨f1, f2⟩ := fin1 (fun z => c2 z.2)
        exact ⟨_, w, rfl, by rw [va_same, f1], rfl, f2, fun z => absurd z tk1, fun j j1 j2 j3 j4 => oth _ j j1 j2 j3⟩
    · rw [if_neg c1]
      obtain ⟨f1, f2⟩ := fin1 (fun z => c1 z.1)
      exact ⟨_, w, rfl, by rw [va_same, f1], rfl, f2, fun z => absurd z tk1, fun j j1 j2 j3 j4 => oth _ j j1 j2 j3⟩
theorem m_nt0 {h : MH} (L : lay h) {by_ : Nat → Nat} {len : Nat} (hl : len ≤ 300) (hb : ∀ j, j < 300 → gI h 71 j = nI (by_ j) ∧ by_ j < 256) {t : Nat → Int32} {pl : Nat → Int32} {D : Nat} (hD : 1 ≤ D) {w : Nat → Int64} {s e k v : Nat} (K : TOKS by_ len s e k v) : ∀ (r x : Nat) (a : Nat → Int32), x + r = s → BLK by_ len x s → a 7 = nI x → a 4 = nI len → ∃ a' w', G_X11_nextToken_0 D (MD h a t pl w) = some (.int 0, MD h a' t pl w') ∧ a' 7 = nI e ∧ a' 8 = nI s ∧ TKN (a' 9) (w' 11) k ∧ (k = 258 → ∃ x, a' 10 = nI x ∧ x < 2000000 ∧ v = min x 10000) ∧ ∀ j, ¬ j = 7 → ¬ j = 8 → ¬ j = 9 → ¬ j = 10 → a' j = a j := by
  intro r
  induction r with
  | zero =>
    intro x a hx B e7 e4
    have : x = s := by omega
    subst this
    exact m_ntS L hl hb hD B.2.1 B.2.2.2 K e7 e4
  | succ r ih =>
    intro x a hx B e7 e4
    have hlt : x < len := by have := B.2.1; omega
    have bb := B.2.2.1 x (Nat.le_refl _) (by omega)
    have h2 := (hb x (by omega)).2
    obtain ⟨a', w', q1, q2, q3, q4, q5, q6⟩ := ih (x + 1) (va_up a 7 (nI (x + 1))) (by omega) ⟨by omega, B.2.1, fun j j1 j2 => B.2.2.1 j (by omega) j2, B.2.2.2⟩ (va_same _ _ _) e4
    refine ⟨a', w', ?_, q2, q3, q4, q5, fun j j1 j2 j3 j4 => by rw [q6 j j1 j2 j3 j4, va_ne _ _ j1]⟩
    have e12 : G_X11_nextToken_12 D (MD h a t pl w) = some (.int 0, MD h a' t pl w') := by
      rw [S_X11_nextToken_12 (lay_MD L _ _ _ _), gI_MD67, e7, nI_1, sI_MD67, lt_def, q1]
    rw [S_X11_nextToken_0 (lay_MD L _ _ _ _), gI_MD67, e7, m_byt L hl hb hD e4 (by omega), cI_some, if_pos hlt]
    rcases bb with z | z
    · rw [z, if_pos (by decide), e12]
    · rw [z, if_neg (by decide), gI_MD67, e7, m_byt L hl hb hD e4 (by omega), cI_some, if_pos hlt, z, if_pos (by decide), e12]
theorem m_nxt {h : MH} (L : lay h) {by_ : Nat → Nat} {len : Nat} (hl : len ≤ 300) (hb : ∀ j, j < 300 → gI h 71 j = nI (by_ j) ∧ by_ j < 256) {t : Nat → Int32} {pl : Nat → Int32} {D : Nat} (hD : 2 ≤ D) {a : Nat → Int32} {w : Nat → Int64} {x s e k v : Nat} (K : TOKS by_ len s e k v) (B : BLK by_ len x s) (e7 : a 7 = nI x) (e4 : a 4 = nI len) : ∃ a' w', F_X11_nextToken D (MD h a t pl w) = some (.int 0, MD h a' t pl w') ∧ a' 7 = nI e ∧ a' 8 = nI s ∧ TKN (a' 9) (w' 11) k ∧ (k = 258 → ∃ x, a' 10 = nI x ∧ x < 2000000 ∧ v = min x 10000) ∧ ∀ j, ¬ j = 7 → ¬ j = 8 → ¬ j = 9 → ¬ j = 10 → a' j = a j := by
  obtain ⟨d, rfl⟩ : ∃ d, D = d + 1 := ⟨D - 1, by omega⟩
  obtain ⟨a', w', q1, q⟩ := m_nt0 L hl hb (t := t) (pl := pl) (D := d) (by omega) (w := w) K (s - x) x a (by have := B.1; omega) B e7 e4
  refine ⟨a', w', ?_, q⟩
  rw [S_X11_nextToken_0 (lay_MD L _ _ _ _)] at q1
  rw [S_X11_nextToken (lay_MD L _ _ _ _)]
  exact q1
/-- a row of tokens -/
theorem m_NXT {h : MH} (L : lay h) {by_ : Nat → Nat} {len : Nat} (hl : len ≤ 300) (hb : ∀ j, j < 300 → gI h 71 j = nI (by_ j) ∧ by_ j < 256) {tk ts tv te : Nat → Nat} {T : Nat} (Q : ∀ i, i < T → BLK by_ len (te i) (ts (i + 1)) ∧ TOKS by_ len (ts (i + 1)) (te (i + 1)) (tk (i + 1)) (tv (i + 1))) : NXT h tk ts tv te T len := by
  intro D a t pl w p hD hp e4 X
  obtain ⟨q1, q2⟩ := Q p hp
  obtain ⟨a', w', r1, r2, r3, r4, r5, r6⟩ := m_nxt L hl hb (t := t) (pl := pl) (D := D) (by omega) (w := w) q2 q1 X.2.2.1 e4
  exact ⟨a', w', r1, ⟨r4, r3, r2, r5⟩, r6⟩
end LXM
