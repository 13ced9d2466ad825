--deps:19.lay 21.facts 22.00.names 22.01.eq 22.02.eq 22.03.eq 22.04.eq 22.05.eq 22.06.eq 22.07.eq 22.08.eq 22.09.eq 22.10.eq 22.11.eq 22.12.eq 22.13.eq 22.14.eq 22.15.eq 22.16.eq 22.17.eq 22.18.eq 22.19.eq 22.20.eq 22.21.eq 22.22.eq 22.23.eq 23.num 24.town 25.evc 26.evm 27.law 28.says 29.inv 71.yard 72.yard2 73.gx 74.gx2 75.gx3 76.reader
/-! THE REFERENCE'S READER: its row, its tokens, its small questions -/
set_option linter.unusedSectionVars false
def MD (h : MH) (a t p : Nat → Int32) (w : Nat → Int64) : MH := rL (rI (rI (rI h 67 a) 70 t) 72 p) 67 w
section MDH
theorem gI_MD67 (h : MH) (a : Nat → Int32) (t : Nat → Int32) (p : Nat → Int32) (w : Nat → Int64) : gI (MD h a t p w) 67 = a := by
  unfold MD
  rw [gI_rL, gI_rI, if_neg (by decide), gI_rI, if_neg (by decide), gI_rI, if_pos rfl]
theorem gI_MD70 (h : MH) (a : Nat → Int32) (t : Nat → Int32) (p : Nat → Int32) (w : Nat → Int64) : gI (MD h a t p w) 70 = t := by
  unfold MD
  rw [gI_rL, gI_rI, if_neg (by decide), gI_rI, if_pos rfl]
theorem gI_MD72 (h : MH) (a : Nat → Int32) (t : Nat → Int32) (p : Nat → Int32) (w : Nat → Int64) : gI (MD h a t p w) 72 = p := by
  unfold MD
  rw [gI_rL, gI_rI, if_pos rfl]
theorem gI_MDo (h : MH) (a : Nat → Int32) (t : Nat → Int32) (p : Nat → Int32) (w : Nat → Int64) {b : Nat} (h1 : ¬ b = 67) (h2 : ¬ b = 70) (h3 : ¬ b = 72) : gI (MD h a t p w) b = gI h b := by
  unfold MD
  rw [gI_rL, gI_rI, if_neg h3, gI_rI, if_neg h2, gI_rI, if_neg h1]
theorem gL_MD (h : MH) (a : Nat → Int32) (t : Nat → Int32) (p : Nat → Int32) (w : Nat → Int64) : gL (MD h a t p w) 67 = w := by
  unfold MD
  rw [gL_rL, if_pos rfl]
theorem sI_MD67 (h : MH) (a : Nat → Int32) (t : Nat → Int32) (p : Nat → Int32) (w : Nat → Int64) (k : Nat) (v : Int32) : sI (MD h a t p w) 67 k v = MD h (va_up a k v) t p w := by
  rw [sI_def, gI_MD67]
  unfold MD
  rw [rL_rI, rI_swap _ p _ (by decide), rI_swap _ t _ (by decide), rI_rI]
theorem sI_MD70 (h : MH) (a : Nat → Int32) (t : Nat → Int32) (p : Nat → Int32) (w : Nat → Int64) (k : Nat) (v : Int32) : sI (MD h a t p w) 70 k v = MD h a (va_up t k v) p w := by
  rw [sI_def, gI_MD70]
  unfold MD
  rw [rL_rI, rI_swap _ p _ (by decide), rI_rI]
theorem sI_MD72 (h : MH) (a : Nat → Int32) (t : Nat → Int32) (p : Nat → Int32) (w : Nat → Int64) (k : Nat) (v : Int32) : sI (MD h a t p w) 72 k v = MD h a t (va_up p k v) w := by
  rw [sI_def, gI_MD72]
  unfold MD
  rw [rL_rI, rI_rI]
theorem sL_MD (h : MH) (a : Nat → Int32) (t : Nat → Int32) (p : Nat → Int32) (w : Nat → Int64) (k : Nat) (v : Int64) : sL (MD h a t p w) 67 k v = MD h a t p (va_up w k v) := by
  unfold sL
  rw [gL_MD]
  unfold MD
  rw [rL_rL]
end MDH
theorem lay_MD {h : MH} (L : lay h) (a t p : Nat → Int32) (w : Nat → Int64) : lay (MD h a t p w) := by
  have : lay (rI (rI (rI h 67 a) 70 t) 72 p) := lay_rI (lay_rI (lay_rI L (by decide)) (by decide)) (by decide)
  exact this
/-- the words -/
def wds : List (List Nat) := [[116, 105, 112, 115], [115, 108, 105, 100, 101, 115], [112, 101, 114, 115, 111, 110], [103, 111, 97, 108], [108, 101, 102, 116], [114, 105, 103, 104, 116], [115, 104, 111, 118, 101, 108], [104, 111, 117, 114], [116, 105, 112], [97, 108, 108], [115, 110, 111, 119], [119, 104, 111], [119, 101, 105, 103, 104, 116], [112, 108, 97, 99, 101], [97, 116], [115, 105, 103, 110], [108, 111, 97, 100], [105, 102], [116, 104, 101, 110], [101, 108, 115, 101], [101, 110, 100], [111, 114], [97, 110, 100], [110, 111, 116]]
def vW (l : List Nat) : Nat := l.foldl (fun v b => v * 256 + b) 0
def WV (i : Nat) : Int64 := Int64.ofNat (vW (wds.getD i []))
def sgnT (k : Nat) : Prop := k ∈ [35, 40, 41, 42, 43, 45, 47, 59, 60, 61, 62]
def TKN (tok : Int32) (wd : Int64) (k : Nat) : Prop := (k = 259 ∧ tok = 0) ∨ (k = 258 ∧ tok = 1) ∨ (∃ i, i < 24 ∧ k = 300 + i ∧ tok = 2 ∧ wd = WV i) ∨ (k = 260 ∧ (tok = 3 ∨ tok = 58 ∨ (tok = 2 ∧ ∀ i, i < 24 → ¬ wd = WV i))) ∨ (k = 256 ∧ tok = 4) ∨ (k = 257 ∧ tok = 5) ∨ (sgnT k ∧ tok = nI k)
theorem WV_ne : ∀ i, i < 24 → ∀ j, j < 24 → ¬ i = j → ¬ WV i = WV j := by decide +kernel
theorem sgnT_c {k : Nat} (s : sgnT k) : k = 35 ∨ k = 40 ∨ k = 41 ∨ k = 42 ∨ k = 43 ∨ k = 45 ∨ k = 47 ∨ k = 59 ∨ k = 60 ∨ k = 61 ∨ k = 62 := by
  unfold sgnT at s
  simpa using s
theorem tkn_word {tok : Int32} {wd : Int64} {k i : Nat} (H : TKN tok wd k) (hi : i < 24) : (tok = 2 ∧ wd = WV i) ↔ k = 300 + i := by
  rcases H with ⟨h1, h2⟩ | ⟨h1, h2⟩ | ⟨j, hj, h1, h2, h3⟩ | ⟨h1, h2 | h2 | ⟨h2, h3⟩⟩ | ⟨h1, h2⟩ | ⟨h1, h2⟩ | ⟨h1, h2⟩
  · exact ⟨fun e => absurd (h2 ▸ e.1) (by decide), fun e => by omega⟩
  · exact ⟨fun e => absurd (h2 ▸ e.1) (by decide), fun e => by omega⟩
  · constructor
    · intro e
      by_cases c : j = i
      · rw [h1, c]
      · exact absurd (h3.symm.trans e.2) (WV_ne j hj i hi c)
    · intro e
      have : j = i := by omega
      subst this
      exact ⟨h2, h3⟩
  · exact ⟨fun e => absurd (h2 ▸ e.1) (by decide), fun e => by omega⟩
  · exact ⟨fun e => absurd (h2 ▸ e.1) (by decide), fun e => by omega⟩
  · exact ⟨fun e => absurd e.2 (h3 i hi), fun e => by omega⟩
  · exact ⟨fun e => absurd (h2 ▸ e.1) (by decide), fun e => by omega⟩
  · exact ⟨fun e => absurd (h2 ▸ e.1) (by decide), fun e => by omega⟩
  · have := sgnT_c h1
    refine ⟨fun e => ?_, fun e => by omega⟩
    rw [h2] at e
    have e2 := (nI_eq (a := k) (b := 2) (by omega) (by omega)).mp e.1
    omega
/-- a token that is a sign, a number, the end -/
theorem tkn_sgn {tok : Int32} {wd : Int64} {k s : Nat} (H : TKN tok wd k) (hs : s = 35 ∨ s = 40 ∨ s = 41 ∨ s = 42 ∨ s = 43 ∨ s = 45 ∨ s = 47 ∨ s = 59 ∨ s = 60 ∨ s = 61 ∨ s = 62) : tok = nI s ↔ k = s := by
  have ne : ∀ x, (x = 0 ∨ x = 1 ∨ x = 2 ∨ x = 3 ∨ x = 58 ∨ x = 4 ∨ x = 5) → ¬ nI x = nI s := by
    intro x hx e
    have := (nI_eq (a := x) (b := s) (by omega) (by omega)).mp e
    omega
  rcases H with ⟨h1, h2⟩ | ⟨h1, h2⟩ | ⟨j, hj, h1, h2, h3⟩ | ⟨h1, h2 | h2 | ⟨h2, h3⟩⟩ | ⟨h1, h2⟩ | ⟨h1, h2⟩ | ⟨h1, h2⟩
  · exact ⟨fun e => absurd (h2.symm.trans e) (ne 0 (by omega)), fun e => by omega⟩
  · exact ⟨fun e => absurd (h2.symm.trans e) (ne 1 (by omega)), fun e => by omega⟩
  · exact ⟨fun e => absurd (h2.symm.trans e) (ne 2 (by omega)), fun e => by omega⟩
  · exact ⟨fun e => absurd (h2.symm.trans e) (ne 3 (by omega)), fun e => by omega⟩
  · exact ⟨fun e => absurd (h2.symm.trans e) (ne 58 (by omega)), fun e => by omega⟩
  · exact ⟨fun e => absurd (h2.symm.trans e) (ne 2 (by omega)), fun e => by omega⟩
  · exact ⟨fun e => absurd (h2.symm.trans e) (ne 4 (by omega)), fun e => by omega⟩
  · exact ⟨fun e => absurd (h2.symm.trans e) (ne 5 (by omega)), fun e => by omega⟩
  · have := sgnT_c h1
    rw [h2]
    exact nI_eq (by omega) (by omega)
theorem tkn_low {tok : Int32} {wd : Int64} {k : Nat} (H : TKN tok wd k) : (tok = 0 ↔ k = 259) ∧ (tok = 1 ↔ k = 258) ∧ (tok = 4 ↔ k = 256) ∧ (tok = 5 ↔ k = 257) := by
  have sg : sgnT k → tok = nI k → ∀ x, x < 6 → ¬ tok = nI x := by
    intro s e x hx z
    have := sgnT_c s
    rw [e] at z
    have := (nI_eq (a := k) (b := x) (by omega) (by omega)).mp z
    omega
  rcases H with ⟨h1, h2⟩ | ⟨h1, h2⟩ | ⟨j, hj, h1, h2, h3⟩ | ⟨h1, h2 | h2 | ⟨h2, h3⟩⟩ | ⟨h1, h2⟩ | ⟨h1, h2⟩ | ⟨h1, h2⟩
  · rw [h2, h1]; decide
  · rw [h2, h1]; decide
  · rw [h2, h1]
    refine ⟨⟨fun e => absurd e (by decide), fun e => by omega⟩, ⟨fun e => absurd e (by decide), fun e => by omega⟩, ⟨fun e => absurd e (by decide), fun e => by omega⟩, ⟨fun e => absurd e (by decide), fun e => by omega⟩⟩
  · rw [h2, h1]; decide
  · rw [h2, h1]; decide
  · rw [h2, h1]; decide
  · rw [h2, h1]; decide
  · rw [h2, h1]; decide
  · have q := sg h1 h2
    have := sgnT_c h1
    refine ⟨⟨fun e => absurd e (q 0 (by omega)), fun e => by omega⟩, ⟨fun e => absurd e (q 1 (by omega)), fun e => by omega⟩, ⟨fun e => absurd e (q 4 (by omega)), fun e => by omega⟩, ⟨fun e => absurd e (q 5 (by omega)), fun e => by omega⟩⟩
/-- the reference stands at token p -/
def LX (tk ts tv te : Nat → Nat) (a : Nat → Int32) (w : Nat → Int64) (p : Nat) : Prop := TKN (a 9) (w 11) (tk p) ∧ a 8 = nI (ts p) ∧ a 7 = nI (te p) ∧ (tk p = 258 → ∃ x, a 10 = nI x ∧ x < 2000000 ∧ tv p = min x 10000)
section MQ
theorem m_isw {h : MH} (L : lay h) {tk : Nat → Nat} {ts : Nat → Nat} {tv : Nat → Nat} {te : Nat → Nat} {a : Nat → Int32} {t : Nat → Int32} {pl : Nat → Int32} {w : Nat → Int64} {p : Nat} (X : LX tk ts tv te a w p) {D : Nat} (hD : 1 ≤ D) {i : Nat} (hi : i < 24) : F_X11_isWord D (WV i) (MD h a t pl w) = some (.int (if tk p = 300 + i then 1 else 0), MD h a t pl w) := by
  obtain ⟨d, rfl⟩ : ∃ d, D = d + 1 := ⟨D - 1, by omega⟩
  rw [S_X11_isWord (lay_MD L _ _ _ _), gI_MD67, gL_MD]
  have e := tkn_word X.1 hi
  by_cases c : tk p = 300 + i
  · have := e.mpr c
    rw [if_pos this.1, if_pos ((lg_cmp_eq _ _).mpr this.2), if_pos c]
  · rw [if_neg c]
    by_cases c2 : a 9 = 2
    · rw [if_pos c2, if_neg (fun z => c (e.mp ⟨c2, (lg_cmp_eq _ _).mp z⟩))]
    · rw [if_neg c2]
end MQ
section MW
theorem m_w2 {h : MH} (L : lay h) {D : Nat} (hD : 1 ≤ D) (x y : Int32) : F_X11_w2 D x y h = some (.long (((x.toInt64) <<< ((8 : Int32).toInt64 &&& 63)) ||| (y.toInt64)), h) := by
  obtain ⟨d, rfl⟩ : ∃ d, D = d + 1 := ⟨D - 1, by omega⟩
  rw [S_X11_w2 L]
theorem m_w3 {h : MH} (L : lay h) {D : Nat} (hD : 2 ≤ D) (x y z : Int32) : F_X11_w3 D x y z h = some (.long (((((x.toInt64) <<< ((8 : Int32).toInt64 &&& 63)) ||| (y.toInt64)) <<< ((8 : Int32).toInt64 &&& 63)) ||| (z.toInt64)), h) := by
  obtain ⟨d, rfl⟩ : ∃ d, D = d + 1 := ⟨D - 1, by omega⟩
  rw [S_X11_w3 L, m_w2 L (by omega), cL_some]
theorem m_w4 {h : MH} (L : lay h) {D : Nat} (hD : 3 ≤ D) (x y z u : Int32) : F_X11_w4 D x y z u h = some (.long (((((((x.toInt64) <<< ((8 : Int32).toInt64 &&& 63)) ||| (y.toInt64)) <<< ((8 : Int32).toInt64 &&& 63)) ||| (z.toInt64)) <<< ((8 : Int32).toInt64 &&& 63)) ||| (u.toInt64)), h) := by
  obtain ⟨d, rfl⟩ : ∃ d, D = d + 1 := ⟨D - 1, by omega⟩
  rw [S_X11_w4 L, m_w3 L (by omega), cL_some]
theorem m_w5 {h : MH} (L : lay h) {D : Nat} (hD : 4 ≤ D) (x y z u v : Int32) : F_X11_w5 D x y z u v h = some (.long (((((((((x.toInt64) <<< ((8 : Int32).toInt64 &&& 63)) ||| (y.toInt64)) <<< ((8 : Int32).toInt64 &&& 63)) ||| (z.toInt64)) <<< ((8 : Int32).toInt64 &&& 63)) ||| (u.toInt64)) <<< ((8 : Int32).toInt64 &&& 63)) ||| (v.toInt64)), h) := by
  obtain ⟨d, rfl⟩ : ∃ d, D = d + 1 := ⟨D - 1, by omega⟩
  rw [S_X11_w5 L, m_w4 L (by omega), cL_some]
theorem m_w6 {h : MH} (L : lay h) {D : Nat} (hD : 5 ≤ D) (x y z u v r : Int32) : F_X11_w6 D x y z u v r h = some (.long (((((((((((x.toInt64) <<< ((8 : Int32).toInt64 &&& 63)) ||| (y.toInt64)) <<< ((8 : Int32).toInt64 &&& 63)) ||| (z.toInt64)) <<< ((8 : Int32).toInt64 &&& 63)) ||| (u.toInt64)) <<< ((8 : Int32).toInt64 &&& 63)) ||| (v.toInt64)) <<< ((8 : Int32).toInt64 &&& 63)) ||| (r.toInt64)), h) := by
  obtain ⟨d, rfl⟩ : ∃ d, D = d + 1 := ⟨D - 1, by omega⟩
  rw [S_X11_w6 L, m_w5 L (by omega), cL_some]
theorem m_W0 {h : MH} (L : lay h) {D : Nat} (hD : 5 ≤ D) : F_X11_w4 D 116 105 112 115 h = some (.long (WV 0), h) := by
  have e : ((((((((116 : Int32).toInt64) <<< ((8 : Int32).toInt64 &&& 63)) ||| ((105 : Int32).toInt64)) <<< ((8 : Int32).toInt64 &&& 63)) ||| ((112 : Int32).toInt64)) <<< ((8 : Int32).toInt64 &&& 63)) ||| ((115 : Int32).toInt64)) = WV 0 := by decide +kernel
  rw [m_w4 L (by omega), e]
theorem m_W1 {h : MH} (L : lay h) {D : Nat} (hD : 5 ≤ D) : F_X11_w6 D 115 108 105 100 101 115 h = some (.long (WV 1), h) := by
  have e : ((((((((((((115 : Int32).toInt64) <<< ((8 : Int32).toInt64 &&& 63)) ||| ((108 : Int32).toInt64)) <<< ((8 : Int32).toInt64 &&& 63)) ||| ((105 : Int32).toInt64)) <<< ((8 : Int32).toInt64 &&& 63)) ||| ((100 : Int32).toInt64)) <<< ((8 : Int32).toInt64 &&& 63)) ||| ((101 : Int32).toInt64)) <<< ((8 : Int32).toInt64 &&& 63)) ||| ((115 : Int32).toInt64)) = WV 1 := by decide +kernel
  rw [m_w6 L (by omega), e]
theorem m_W2 {h : MH} (L : lay h) {D : Nat} (hD : 5 ≤ D) : F_X11_w6 D 112 101 114 115 111 110 h = some (.long (WV 2), h) := by
  have e : ((((((((((((112 : Int32).toInt64) <<< ((8 : Int32).toInt64 &&& 63)) ||| ((101 : Int32).toInt64)) <<< ((8 : Int32).toInt64 &&& 63)) ||| ((114 : Int32).toInt64)) <<< ((8 : Int32).toInt64 &&& 63)) ||| ((115 : Int32).toInt64)) <<< ((8 : Int32).toInt64 &&& 63)) ||| ((111 : Int32).toInt64)) <<< ((8 : Int32).toInt64 &&& 63)) ||| ((110 : Int32).toInt64)) = WV 2 := by decide +kernel
  rw [m_w6 L (by omega), e]
theorem m_W3 {h : MH} (L : lay h) {D : Nat} (hD : 5 ≤ D) : F_X11_w4 D 103 111 97 108 h = some (.long (WV 3), h) := by
  have e : ((((((((103 : Int32).toInt64) <<< ((8 : Int32).toInt64 &&& 63)) ||| ((111 : Int32).toInt64)) <<< ((8 : Int32).toInt64 &&& 63)) ||| ((97 : Int32).toInt64)) <<< ((8 : Int32).toInt64 &&& 63)) ||| ((108 : Int32).toInt64)) = WV 3 := by decide +kernel
  rw [m_w4 L (by omega), e]
theorem m_W4 {h : MH} (L : lay h) {D : Nat} (hD : 5 ≤ D) : F_X11_w4 D 108 101 102 116 h = some (.long (WV 4), h) := by
  have e : ((((((((108 : Int32).toInt64) <<< ((8 : Int32).toInt64 &&& 63)) ||| ((101 : Int32).toInt64)) <<< ((8 : Int32).toInt64 &&& 63)) ||| ((102 : Int32).toInt64)) <<< ((8 : Int32).toInt64 &&& 63)) ||| ((116 : Int32).toInt64)) = WV 4 := by decide +kernel
  rw [m_w4 L (by omega), e]
theorem m_W5 {h : MH} (L : lay h) {D : Nat} (hD : 5 ≤ D) : F_X11_w5 D 114 105 103 104 116 h = some (.long (WV 5), h) := by
  have e : ((((((((((114 : Int32).toInt64) <<< ((8 : Int32).toInt64 &&& 63)) ||| ((105 : Int32).toInt64)) <<< ((8 : Int32).toInt64 &&& 63)) ||| ((103 : Int32).toInt64)) <<< ((8 : Int32).toInt64 &&& 63)) ||| ((104 : Int32).toInt64)) <<< ((8 : Int32).toInt64 &&& 63)) ||| ((116 : Int32).toInt64)) = WV 5 := by decide +kernel
  rw [m_w5 L (by omega), e]
theorem m_W6 {h : MH} (L : lay h) {D : Nat} (hD : 5 ≤ D) : F_X11_w6 D 115 104 111 118 101 108 h = some (.long (WV 6), h) := by
  have e : ((((((((((((115 : Int32).toInt64) <<< ((8 : Int32).toInt64 &&& 63)) ||| ((104 : Int32).toInt64)) <<< ((8 : Int32).toInt64 &&& 63)) ||| ((111 : Int32).toInt64)) <<< ((8 : Int32).toInt64 &&& 63)) ||| ((118 : Int32).toInt64)) <<< ((8 : Int32).toInt64 &&& 63)) ||| ((101 : Int32).toInt64)) <<< ((8 : Int32).toInt64 &&& 63)) ||| ((108 : Int32).toInt64)) = WV 6 := by decide +kernel
  rw [m_w6 L (by omega), e]
theorem m_W7 {h : MH} (L : lay h) {D : Nat} (hD : 5 ≤ D) : F_X11_w4 D 104 111 117 114 h = some (.long (WV 7), h) := by
  have e : ((((((((104 : Int32).toInt64) <<< ((8 : Int32).toInt64 &&& 63)) ||| ((111 : Int32).toInt64)) <<< ((8 : Int32).toInt64 &&& 63)) ||| ((117 : Int32).toInt64)) <<< ((8 : Int32).toInt64 &&& 63)) ||| ((114 : Int32).toInt64)) = WV 7 := by decide +kernel
  rw [m_w4 L (by omega), e]
theorem m_W8 {h : MH} (L : lay h) {D : Nat} (hD : 5 ≤ D) : F_X11_w3 D 116 105 112 h = some (.long (WV 8), h) := by
  have e : ((((((116 : Int32).toInt64) <<< ((8 : Int32).toInt64 &&& 63)) ||| ((105 : Int32).toInt64)) <<< ((8 : Int32).toInt64 &&& 63)) ||| ((112 : Int32).toInt64)) = WV 8 := by decide +kernel
  rw [m_w3 L (by omega), e]
theorem m_W9 {h : MH} (L : lay h) {D : Nat} (hD : 5 ≤ D) : F_X11_w3 D 97 108 108 h = some (.long (WV 9), h) := by
  have e : ((((((97 : Int32).toInt64) <<< ((8 : Int32).toInt64 &&& 63)) ||| ((108 : Int32).toInt64)) <<< ((8 : Int32).toInt64 &&& 63)) ||| ((108 : Int32).toInt64)) = WV 9 := by decide +kernel
  rw [m_w3 L (by omega), e]
theorem m_W10 {h : MH} (L : lay h) {D : Nat} (hD : 5 ≤ D) : F_X11_w4 D 115 110 111 119 h = some (.long (WV 10), h) := by
  have e : ((((((((115 : Int32).toInt64) <<< ((8 : Int32).toInt64 &&& 63)) ||| ((110 : Int32).toInt64)) <<< ((8 : Int32).toInt64 &&& 63)) ||| ((111 : Int32).toInt64)) <<< ((8 : Int32).toInt64 &&& 63)) ||| ((119 : Int32).toInt64)) = WV 10 := by decide +kernel
  rw [m_w4 L (by omega), e]
theorem m_W11 {h : MH} (L : lay h) {D : Nat} (hD : 5 ≤ D) : F_X11_w3 D 119 104 111 h = some (.long (WV 11), h) := by
  have e : ((((((119 : Int32).toInt64) <<< ((8 : Int32).toInt64 &&& 63)) ||| ((104 : Int32).toInt64)) <<< ((8 : Int32).toInt64 &&& 63)) ||| ((111 : Int32).toInt64)) = WV 11 := by decide +kernel
  rw [m_w3 L (by omega), e]
theorem m_W12 {h : MH} (L : lay h) {D : Nat} (hD : 5 ≤ D) : F_X11_w6 D 119 101 105 103 104 116 h = some (.long (WV 12), h) := by
  have e : ((((((((((((119 : Int32).toInt64) <<< ((8 : Int32).toInt64 &&& 63)) ||| ((101 : Int32).toInt64)) <<< ((8 : Int32).toInt64 &&& 63)) ||| ((105 : Int32).toInt64)) <<< ((8 : Int32).toInt64 &&& 63)) ||| ((103 : Int32).toInt64)) <<< ((8 : Int32).toInt64 &&& 63)) ||| ((104 : Int32).toInt64)) <<< ((8 : Int32).toInt64 &&& 63)) ||| ((116 : Int32).toInt64)) = WV 12 := by decide +kernel
  rw [m_w6 L (by omega), e]
theorem m_W13 {h : MH} (L : lay h) {D : Nat} (hD : 5 ≤ D) : F_X11_w5 D 112 108 97 99 101 h = some (.long (WV 13), h) := by
  have e : ((((((((((112 : Int32).toInt64) <<< ((8 : Int32).toInt64 &&& 63)) ||| ((108 : Int32).toInt64)) <<< ((8 : Int32).toInt64 &&& 63)) ||| ((97 : Int32).toInt64)) <<< ((8 : Int32).toInt64 &&& 63)) ||| ((99 : Int32).toInt64)) <<< ((8 : Int32).toInt64 &&& 63)) ||| ((101 : Int32).toInt64)) = WV 13 := by decide +kernel
  rw [m_w5 L (by omega), e]
theorem m_W14 {h : MH} (L : lay h) {D : Nat} (hD : 5 ≤ D) : F_X11_w2 D 97 116 h = some (.long (WV 14), h) := by
  have e : ((((97 : Int32).toInt64) <<< ((8 : Int32).toInt64 &&& 63)) ||| ((116 : Int32).toInt64)) = WV 14 := by decide +kernel
  rw [m_w2 L (by omega), e]
theorem m_W15 {h : MH} (L : lay h) {D : Nat} (hD : 5 ≤ D) : F_X11_w4 D 115 105 103 110 h = some (.long (WV 15), h) := by
  have e : ((((((((115 : Int32).toInt64) <<< ((8 : Int32).toInt64 &&& 63)) ||| ((105 : Int32).toInt64)) <<< ((8 : Int32).toInt64 &&& 63)) ||| ((103 : Int32).toInt64)) <<< ((8 : Int32).toInt64 &&& 63)) ||| ((110 : Int32).toInt64)) = WV 15 := by decide +kernel
  rw [m_w4 L (by omega), e]
theorem m_W16 {h : MH} (L : lay h) {D : Nat} (hD : 5 ≤ D) : F_X11_w4 D 108 111 97 100 h = some (.long (WV 16), h) := by
  have e : ((((((((108 : Int32).toInt64) <<< ((8 : Int32).toInt64 &&& 63)) ||| ((111 : Int32).toInt64)) <<< ((8 : Int32).toInt64 &&& 63)) ||| ((97 : Int32).toInt64)) <<< ((8 : Int32).toInt64 &&& 63)) ||| ((100 : Int32).toInt64)) = WV 16 := by decide +kernel
  rw [m_w4 L (by omega), e]
theorem m_W17 {h : MH} (L : lay h) {D : Nat} (hD : 5 ≤ D) : F_X11_w2 D 105 102 h = some (.long (WV 17), h) := by
  have e : ((((105 : Int32).toInt64) <<< ((8 : Int32).toInt64 &&& 63)) ||| ((102 : Int32).toInt64)) = WV 17 := by decide +kernel
  rw [m_w2 L (by omega), e]
theorem m_W18 {h : MH} (L : lay h) {D : Nat} (hD : 5 ≤ D) : F_X11_w4 D 116 104 101 110 h = some (.long (WV 18), h) := by
  have e : ((((((((116 : Int32).toInt64) <<< ((8 : Int32).toInt64 &&& 63)) ||| ((104 : Int32).toInt64)) <<< ((8 : Int32).toInt64 &&& 63)) ||| ((101 : Int32).toInt64)) <<< ((8 : Int32).toInt64 &&& 63)) ||| ((110 : Int32).toInt64)) = WV 18 := by decide +kernel
  rw [m_w4 L (by omega), e]
theorem m_W19 {h : MH} (L : lay h) {D : Nat} (hD : 5 ≤ D) : F_X11_w4 D 101 108 115 101 h = some (.long (WV 19), h) := by
  have e : ((((((((101 : Int32).toInt64) <<< ((8 : Int32).toInt64 &&& 63)) ||| ((108 : Int32).toInt64)) <<< ((8 : Int32).toInt64 &&& 63)) ||| ((115 : Int32).toInt64)) <<< ((8 : Int32).toInt64 &&& 63)) ||| ((101 : Int32).toInt64)) = WV 19 := by decide +kernel
  rw [m_w4 L (by omega), e]
theorem m_W20 {h : MH} (L : lay h) {D : Nat} (hD : 5 ≤ D) : F_X11_w3 D 101 110 100 h = some (.long (WV 20), h) := by
  have e : ((((((101 : Int32).toInt64) <<< ((8 : Int32).toInt64 &&& 63)) ||| ((110 : Int32).toInt64)) <<< ((8 : Int32).toInt64 &&& 63)) ||| ((100 : Int32).toInt64)) = WV 20 := by decide +kernel
  rw [m_w3 L (by omega), e]
theorem m_W21 {h : MH} (L : lay h) {D : Nat} (hD : 5 ≤ D) : F_X11_w2 D 111 114 h = some (.long (WV 21), h) := by
  have e : ((((111 : Int32).toInt64) <<< ((8 : Int32).toInt64 &&& 63)) ||| ((114 : Int32).toInt64)) = WV 21 := by decide +kernel
  rw [m_w2 L (by omega), e]
theorem m_W22 {h : MH} (L : lay h) {D : Nat} (hD : 5 ≤ D) : F_X11_w3 D 97 110 100 h = some (.long (WV 22), h) := by
  have e : ((((((97 : Int32).toInt64) <<< ((8 : Int32).toInt64 &&& 63)) ||| ((110 : Int32).toInt64)) <<< ((8 : Int32).toInt64 &&& 63)) ||| ((100 : Int32).toInt64)) = WV 22 := by decide +kernel
  rw [m_w3 L (by omega), e]
theorem m_W23 {h : MH} (L : lay h) {D : Nat} (hD : 5 ≤ D) : F_X11_w3 D 110 111 116 h = some (.long (WV 23), h) := by
  have e : ((((((110 : Int32).toInt64) <<< ((8 : Int32).toInt64 &&& 63)) ||| ((111 : Int32).toInt64)) <<< ((8 : Int32).toInt64 &&& 63)) ||| ((116 : Int32).toInt64)) = WV 23 := by decide +kernel
  rw [m_w3 L (by omega), e]
end MW
