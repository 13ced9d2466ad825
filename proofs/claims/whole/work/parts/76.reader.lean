--deps:19.lay 21.facts 22.00.names 22.01.eq 22.02.eq 22.03.eq 22.04.eq 22.05.eq 22.06.eq 22.07.eq 22.08.eq 22.09.eq 22.10.eq 22.11.eq 22.12.eq 22.13.eq 22.14.eq 22.15.eq 22.16.eq 22.17.eq 22.18.eq 22.19.eq 22.20.eq 22.21.eq 22.22.eq 22.23.eq 23.num 24.town 25.evc 26.evm 27.law 28.says 29.inv 71.yard 72.yard2 73.gx 74.gx2 75.gx3
/-! THE CLASS'S READER: its small steps -/
set_option linter.unusedSectionVars false
def RD (h : MH) (f g : Nat → Int32) : MH := rI (rI h 55 f) 59 g
theorem gI_RD55 (h : MH) (f g : Nat → Int32) : gI (RD h f g) 55 = f := by
  unfold RD
  rw [gI_rI, if_neg (by decide), gI_rI, if_pos rfl]
theorem gI_RD59 (h : MH) (f g : Nat → Int32) : gI (RD h f g) 59 = g := by
  unfold RD
  rw [gI_rI, if_pos rfl]
theorem gI_RDo (h : MH) (f g : Nat → Int32) {a : Nat} (h1 : ¬ a = 55) (h2 : ¬ a = 59) : gI (RD h f g) a = gI h a := by
  unfold RD
  rw [gI_rI, if_neg h2, gI_rI, if_neg h1]
theorem rI_swap (h : MH) {a b : Nat} (f g : Nat → Int32) (e : ¬ a = b) : rI (rI h a f) b g = rI (rI h b g) a f := by
  unfold rI
  congr 2
  funext c
  by_cases c1 : c = a
  · subst c1
    simp [e]
  · by_cases c2 : c = b
    · subst c2
      simp [c1]
    · simp [c1, c2]
theorem sI_RD55 (h : MH) (f g : Nat → Int32) (k : Nat) (v : Int32) : sI (RD h f g) 55 k v = RD h (va_up f k v) g := by
  rw [sI_def, gI_RD55]
  unfold RD
  rw [rI_swap _ _ _ (by decide), rI_rI]
theorem sI_RD59 (h : MH) (f g : Nat → Int32) (k : Nat) (v : Int32) : sI (RD h f g) 59 k v = RD h f (va_up g k v) := by
  rw [sI_def, gI_RD59]
  unfold RD
  rw [rI_rI]
theorem lay_RD {h : MH} (L : lay h) (f g : Nat → Int32) : lay (RD h f g) := lay_rI (lay_rI L (by decide)) (by decide)
def fset (f : Nat → Int32) (q c : Nat) : Nat → Int32 := fun j => if j = 5 then nI q else if j = 7 then nI c else f j
def flt (f : Nat → Int32) (x y : Int32) : Nat → Int32 := fun j => if j = 11 then x else if j = 12 then y else f j
theorem fset_5 (f : Nat → Int32) (q c : Nat) : fset f q c 5 = nI q := rfl
theorem fset_7 (f : Nat → Int32) (q c : Nat) : fset f q c 7 = nI c := rfl
theorem fset_8 (f : Nat → Int32) (q c : Nat) : fset f q c 8 = f 8 := rfl
theorem fset_6 (f : Nat → Int32) (q c : Nat) : fset f q c 6 = f 6 := rfl
theorem up_5 (f : Nat → Int32) (q c q' : Nat) : va_up (fset f q c) 5 (nI q') = fset f q' c := by
  funext j
  unfold va_up fset
  by_cases e : j = 5
  · simp [e]
  · simp [e]
theorem up_7 (f : Nat → Int32) (q c c' : Nat) : va_up (fset f q c) 7 (nI c') = fset f q c' := by
  funext j
  unfold va_up fset
  by_cases e : j = 7
  · simp [e]
  · simp [e]
theorem up_f (f : Nat → Int32) (q c : Nat) (x y : Int32) : va_up (va_up (fset f q c) 11 x) 12 y = fset (flt f x y) q c := by
  funext j
  unfold va_up fset flt
  by_cases e : j = 12
  · simp [e]
  · by_cases e1 : j = 11
    · simp [e1]
    · simp [e, e1]
theorem ckm0 {A : Option (Value × MH)} : ck (mrt 1 0) A = A := ck_pos (mrt_b (c := False))
theorem ckm1 {A : Option (Value × MH)} : ck (mrt 1 1) A = A := ck_pos (mrt_b (c := True))
/-- the tape is cut into T + 1 tokens -/
def TPE (h : MH) (tk ts tv : Nat → Nat) (T : Nat) : Prop := (T ≤ 300 ∧ gI h 50 5 = nI (T + 1)) ∧ (∀ i, i ≤ T → gI h 52 i = nI (tk i) ∧ gI h 53 i = nI (ts i) ∧ gI h 54 i = nI (tv i) ∧ tk i < 1000 ∧ tv i ≤ 10000 ∧ ts i ≤ 300) ∧ tk T = 259 ∧ ∀ i, i < T → ¬ tk i = 259
def RDX (h : MH) (tk ts tv : Nat → Nat) (T : Nat) (f : Nat → Int32) (sl : Bool) : Prop := lay h ∧ TPE h tk ts tv T ∧ f 8 = (if sl = true then 1 else 0)
section RDR
theorem lt_T {h : MH} {tk : Nat → Nat} {ts : Nat → Nat} {tv : Nat → Nat} {T : Nat} {f : Nat → Int32} {sl : Bool} (X : RDX h tk ts tv T f sl) {p : Nat} (hp : p ≤ T) (h9 : ¬ tk p = 259) : p < T := by
  rcases Nat.lt_or_ge p T with c | c
  · exact c
  · have : p = T := by omega
    subst this
    exact absurd X.2.1.2.2.1 h9
theorem r_kind {h : MH} {tk : Nat → Nat} {ts : Nat → Nat} {tv : Nat → Nat} {T : Nat} {f : Nat → Int32} {sl : Bool} (X : RDX h tk ts tv T f sl) {D : Nat} (hD : 1 ≤ D) {p : Nat} (hp : p ≤ T) (c : Nat) (g : Nat → Int32) : F_X4_kind D (RD h (fset f p c) g) = some (.int (nI (tk p)), RD h (fset f p c) g) := by
  obtain ⟨d, rfl⟩ : ∃ d, D = d + 1 := ⟨D - 1, by omega⟩
  have hT := X.2.1.1.1
  rw [S_X4_kind (lay_RD X.1 _ _)]
  simp (disch := omega) only [gI_RD55, gI_RDo, fset_5, nI_ltI, nI_leI, nI_eq, nIl, nIL, nIe, nIz, ib_nIi, ib_L, ix_L, ck_pos, if_pos, if_neg, lt_def, ck_true, true_and, and_true, true_or, or_true, ix_nI, nI_1, nIa, nIb, nI_add, cI_some, cR_some, cL_some, cV_some, if_true, if_false, Bool.false_eq_true, ne_eq, not_true_eq_false, not_false_eq_true, (X.2.1.2.1 p hp).1]
theorem r_adv {h : MH} {tk : Nat → Nat} {ts : Nat → Nat} {tv : Nat → Nat} {T : Nat} {f : Nat → Int32} {sl : Bool} (X : RDX h tk ts tv T f sl) {D : Nat} (hD : 1 ≤ D) {p : Nat} (hp : p < T) (c : Nat) (g : Nat → Int32) : F_X4_advance D (RD h (fset f p c) g) = some (.int 0, RD h (fset f (p + 1) c) g) := by
  obtain ⟨d, rfl⟩ : ∃ d, D = d + 1 := ⟨D - 1, by omega⟩
  have hT := X.2.1.1.1
  rw [S_X4_advance (lay_RD X.1 _ _)]
  simp (disch := omega) only [gI_RD55, gI_RDo, fset_5, nI_ltI, nI_leI, nI_eq, nIl, nIL, nIe, nIz, ib_nIi, ib_L, ix_L, ck_pos, if_pos, if_neg, lt_def, ck_true, true_and, and_true, true_or, or_true, ix_nI, nI_1, nIa, nIb, nI_add, cI_some, cR_some, cL_some, cV_some, if_true, if_false, Bool.false_eq_true, ne_eq, not_true_eq_false, not_false_eq_true, X.2.1.1.2, sI_RD55, up_5]
theorem r_ref {h : MH} {tk : Nat → Nat} {ts : Nat → Nat} {tv : Nat → Nat} {T : Nat} {f : Nat → Int32} {sl : Bool} (X : RDX h tk ts tv T f sl) {D : Nat} (hD : 1 ≤ D) {p : Nat} (hp : p ≤ T) (c : Nat) (g : Nat → Int32) (x : Int32) : F_X4_refuse D x (RD h (fset f p c) g) = some (.int 0, RD h (fset (flt f x (nI (ts p))) p c) g) := by
  obtain ⟨d, rfl⟩ : ∃ d, D = d + 1 := ⟨D - 1, by omega⟩
  have hT := X.2.1.1.1
  have e5 : va_up (fset f p c) 11 x 5 = nI p := rfl
  rw [S_X4_refuse (lay_RD X.1 _ _)]
  simp (disch := omega) only [gI_RD55, gI_RDo, nI_ltI, nI_leI, nI_eq, nIl, nIL, nIe, nIz, ib_nIi, ib_L, ix_L, ck_pos, if_pos, if_neg, lt_def, ck_true, true_and, and_true, true_or, or_true, ix_nI, nI_1, nIa, nIb, nI_add, cI_some, cR_some, cL_some, cV_some, if_true, if_false, Bool.false_eq_true, ne_eq, not_true_eq_false, not_false_eq_true, sI_RD55, e5, (X.2.1.2.1 p hp).2.1, up_f]
theorem r_emit {h : MH} {tk : Nat → Nat} {ts : Nat → Nat} {tv : Nat → Nat} {T : Nat} {f : Nat → Int32} {sl : Bool} (X : RDX h tk ts tv T f sl) {D : Nat} (hD : 1 ≤ D) {p c : Nat} (hc : c < 300) (g : Nat → Int32) {x y : Int32} {e : Nat} (he : (y <<< (5 &&& 31)) ||| x = nI e) : F_X4_emit D x y (RD h (fset f p c) g) = some (.int (nI c), RD h (fset f p (c + 1)) (va_up g c (nI e))) := by
  obtain ⟨d, rfl⟩ : ∃ d, D = d + 1 := ⟨D - 1, by omega⟩
  rw [S_X4_emit (lay_RD X.1 _ _)]
  simp (disch := omega) only [gI_RD55, gI_RDo, fset_7, nI_ltI, nI_leI, nI_eq, nIl, nIL, nIe, nIz, ib_nIi, ib_L, ix_L, ck_pos, if_pos, if_neg, lt_def, ck_true, true_and, and_true, true_or, or_true, ix_nI, nI_1, nIa, nIb, nI_add, cI_some, cR_some, cL_some, cV_some, if_true, if_false, Bool.false_eq_true, ne_eq, not_true_eq_false, not_false_eq_true, sI_RD59, sI_RD55, up_7, he, S_X4_emit_20 (lay_RD X.1 _ _)]
  rw [nI_pred]
theorem r_emitF {h : MH} {tk : Nat → Nat} {ts : Nat → Nat} {tv : Nat → Nat} {T : Nat} {f : Nat → Int32} {sl : Bool} (X : RDX h tk ts tv T f sl) {D : Nat} (hD : 1 ≤ D) {p c : Nat} (hc : c ≤ 300) (g : Nat → Int32) (x y : Int32) : ∃ z c' g', F_X4_emit D x y (RD h (fset f p c) g) = some (.int z, RD h (fset f p c') g') ∧ c' ≤ 300 := by
  obtain ⟨d, rfl⟩ : ∃ d, D = d + 1 := ⟨D - 1, by omega⟩
  rw [S_X4_emit (lay_RD X.1 _ _)]
  by_cases c3 : c < 300
  · refine ⟨nI c, c + 1, va_up g c ((y <<< (5 &&& 31)) ||| x), ?_, by omega⟩
    simp (disch := omega) only [gI_RD55, gI_RDo, fset_7, nI_ltI, nI_leI, nI_eq, nIl, nIL, nIe, nIz, ib_nIi, ib_L, ix_L, ck_pos, if_pos, if_neg, lt_def, ck_true, true_and, and_true, true_or, or_true, ix_nI, nI_1, nIa, nIb, nI_add, cI_some, cR_some, cL_some, cV_some, if_true, if_false, Bool.false_eq_true, ne_eq, not_true_eq_false, not_false_eq_true, sI_RD59, sI_RD55, up_7, S_X4_emit_20 (lay_RD X.1 _ _)]
    rw [nI_pred]
  · refine ⟨nI c - 1, c, g, ?_, hc⟩
    simp (disch := omega) only [gI_RD55, gI_RDo, fset_7, nI_ltI, nI_leI, nI_eq, nIl, nIL, nIe, nIz, ib_nIi, ib_L, ix_L, ck_pos, if_pos, if_neg, lt_def, ck_true, true_and, and_true, true_or, or_true, ix_nI, nI_1, nIa, nIb, nI_add, cI_some, cR_some, cL_some, cV_some, if_true, if_false, Bool.false_eq_true, ne_eq, not_true_eq_false, not_false_eq_true, S_X4_emit_20 (lay_RD X.1 _ _)]
theorem r_expY {h : MH} {tk : Nat → Nat} {ts : Nat → Nat} {tv : Nat → Nat} {T : Nat} {f : Nat → Int32} {sl : Bool} (X : RDX h tk ts tv T f sl) {D : Nat} (hD : 2 ≤ D) {p t : Nat} (hp : p ≤ T) (ht : t < 1000) (h9 : ¬ t = 259) (e : tk p = t) (c : Nat) (g : Nat → Int32) : F_X4_expect D (nI t) (RD h (fset f p c) g) = some (.int 1, RD h (fset f (p + 1) c) g) := by
  obtain ⟨d, rfl⟩ : ∃ d, D = d + 1 := ⟨D - 1, by omega⟩
  have hlt := lt_T X hp (by omega)
  rw [S_X4_expect (lay_RD X.1 _ _), r_kind X (by omega) hp, cI_some, e, if_pos rfl, r_adv X (by omega) hlt, cV_some]
theorem r_expN {h : MH} {tk : Nat → Nat} {ts : Nat → Nat} {tv : Nat → Nat} {T : Nat} {f : Nat → Int32} {sl : Bool} (X : RDX h tk ts tv T f sl) {D : Nat} (hD : 2 ≤ D) {p t : Nat} (hp : p ≤ T) (ht : t < 1000) (e : ¬ tk p = t) (c : Nat) (g : Nat → Int32) : F_X4_expect D (nI t) (RD h (fset f p c) g) = some (.int 0, RD h (fset (flt f 1 (nI (ts p))) p c) g) := by
  obtain ⟨d, rfl⟩ : ∃ d, D = d + 1 := ⟨D - 1, by omega⟩
  have := (X.2.1.2.1 p hp).2.2.2.1
  rw [S_X4_expect (lay_RD X.1 _ _), r_kind X (by omega) hp, cI_some, if_neg (by rw [nI_eq (by omega) (by omega)]; exact e), r_ref X (by omega) hp, cI_some, ckm0]
theorem r_aim {h : MH} {tk : Nat → Nat} {ts : Nat → Nat} {tv : Nat → Nat} {T : Nat} {f : Nat → Int32} {sl : Bool} (X : RDX h tk ts tv T f sl) {D : Nat} (hD : 2 ≤ D) {p c s w op : Nat} (hs : s < c) (hc : c ≤ 300) (g : Nat → Int32) (hw : w < 60000000) (ho : op < 32) (e : g s = nI (w * 32 + op)) : F_X4_aim D (nI s) (RD h (fset f p c) g) = some (.int 0, RD h (fset f p c) (va_up g s (nI (c * 32 + op)))) := by
  obtain ⟨d, rfl⟩ : ∃ d, D = d + 2 := ⟨D - 2, by omega⟩
  obtain ⟨c, rfl⟩ : ∃ c', c = c' + 1 := ⟨c - 1, by omega⟩
  have e7 := enc_mk (w := c + 1) (op := op) (by omega) ho
  rw [S_X4_aim (lay_RD X.1 _ _), gI_RD55, fset_7, nI_pred, S_X10_within (lay_RD X.1 _ _)]
  simp (disch := omega) only [gI_RD55, gI_RD59, gI_RDo, fset_7, nI_ltI, nI_leI, nI_eq, nIl, nIL, nIe, nIz, ib_nIi, ib_L, ix_L, ck_pos, if_pos, if_neg, lt_def, ck_true, true_and, and_true, true_or, or_true, ix_nI, nI_1, nIa, nIb, nI_add, cI_some, cR_some, cL_some, cV_some, if_true, if_false, Bool.false_eq_true, ne_eq, not_true_eq_false, not_false_eq_true, e, enc_and hw ho, e7, sI_RD59, show ¬ ((1 : Int32) = 0) by decide]
end RDR
