--deps:19.lay 21.facts 22.00.names 22.01.eq 22.02.eq 22.03.eq 22.04.eq 22.05.eq 22.06.eq 22.07.eq 22.08.eq 22.09.eq 22.10.eq 22.11.eq 22.12.eq 22.13.eq 22.14.eq 22.15.eq 22.16.eq 22.17.eq 22.18.eq 22.19.eq 22.20.eq 22.21.eq 22.22.eq 22.23.eq 23.num 24.town
/-! A LAW'S VALUE: the class's code for a stack, as steps of a pure machine -/
set_option linter.unusedSectionVars false
/-- next, top, stack -/
abbrev CS : Type := Nat × Nat × (Nat → Int32)
def cOne (op a : Int32) : Int32 := if op = 4 then -a else if op = 5 then (if a ≤ 0 then (if a < 0 then -1 else 0) else 1) else (if a = 0 then 1 else 0)
def cCl (v : Int64) : Int32 := if lg_cmp v 1000000 ≤ 0 then (if lg_cmp v (-1000000) < 0 then -1000000 else v.toInt32) else 1000000
def cTwo (op a b : Int32) : Int32 :=
  if op = 12 then (if a < b then 1 else 0) else if op = 13 then (if a ≤ b then 1 else 0) else if op = 14 then (if a ≤ b then 0 else 1) else if op = 15 then (if a < b then 0 else 1) else if op = 16 then (if a = b then 1 else 0) else if op = 17 then (if a = b then 0 else 1) else if op = 18 then a ||| b else if op = 19 then a &&& b else if op = 8 then cCl (a.toInt64 + b.toInt64) else if op = 9 then cCl (a.toInt64 - b.toInt64) else if op = 10 then cCl (a.toInt64 * b.toInt64) else if b = 0 then cCl 0 else cCl (a / b).toInt64
/-- one operation -/
noncomputable def cst (c nm : Nat → Int32) (ld : Int32 → Int32) (len : Nat) (s : CS) : Option CS :=
  @ite _ (s.1 < len) (mcD _) (
    @ite _ (c s.1 &&& 31 = 0) (mcD _) (@ite _ (s.2.1 < 64) (mcD _) (some (s.1 + 1, s.2.1 + 1, va_up s.2.2 s.2.1 (c s.1 >>> (5 &&& 31)))) none)
    (@ite _ (c s.1 &&& 31 = 1) (mcD _) (@ite _ (s.2.1 < 64 ∧ ib (c s.1 >>> (5 &&& 31)) 7) (mcD _) (some (s.1 + 1, s.2.1 + 1, va_up s.2.2 s.2.1 (nm (ix (c s.1 >>> (5 &&& 31)))))) none)
    (@ite _ (c s.1 &&& 31 = 2) (mcD _) (@ite _ (∃ t, s.1 + 1 < t ∧ t < 1000 ∧ c s.1 >>> (5 &&& 31) = nI t) (mcD _) (some (ix (c s.1 >>> (5 &&& 31)), s.2.1, s.2.2)) none)
    (@ite _ (c s.1 &&& 31 = 3) (mcD _) (@ite _ (0 < s.2.1 ∧ ∃ t, s.1 + 1 < t ∧ t < 1000 ∧ c s.1 >>> (5 &&& 31) = nI t) (mcD _) (some (if s.2.2 (s.2.1 - 1) = 0 then ix (c s.1 >>> (5 &&& 31)) else s.1 + 1, s.2.1 - 1, s.2.2)) none)
    (@ite _ (c s.1 &&& 31 = 6) (mcD _) (@ite _ (0 < s.2.1) (mcD _) (some (s.1 + 1, s.2.1, va_up s.2.2 (s.2.1 - 1) (ld (s.2.2 (s.2.1 - 1))))) none)
    (@ite _ (c s.1 &&& 31 < 8) (mcD _) (@ite _ (0 < s.2.1) (mcD _) (some (s.1 + 1, s.2.1, va_up s.2.2 (s.2.1 - 1) (cOne (c s.1 &&& 31) (s.2.2 (s.2.1 - 1))))) none)
    (@ite _ (1 < s.2.1) (mcD _) (some (s.1 + 1, s.2.1 - 1, va_up s.2.2 (s.2.1 - 2) (cTwo (c s.1 &&& 31) (s.2.2 (s.2.1 - 2)) (s.2.2 (s.2.1 - 1))))) none))))))) none
noncomputable def crn (c nm : Nat → Int32) (ld : Int32 → Int32) (len : Nat) : Nat → CS → Option CS
  | 0, s => some s
  | k + 1, s => (cst c nm ld len s).bind (crn c nm ld len k)
theorem iteD {α : Type} {c : Prop} (i1 i2 : Decidable c) {A B : α} : @ite _ c i1 A B = @ite _ c i2 A B := by
  have : i1 = i2 := Subsingleton.elim _ _
  rw [this]
theorem ite_none {α : Type} {c : Prop} {i : Decidable c} {A : Option α} {r : α} (h : @ite _ c i A none = some r) : c ∧ A = some r := by
  by_cases hc : c
  · rw [if_pos hc] at h; exact ⟨hc, h⟩
  · rw [if_neg hc] at h; cases h
/-- a law's cell: its code, its stack -/
def lawAt (h : MH) (l cc st len : Nat) : Prop := kd h l = 4 ∧ gR h l 0 = cc ∧ gR h l 1 = st ∧ kd h cc = 20 ∧ ln h cc = len ∧ kd h st = 20 ∧ ln h st = 64 ∧ ¬ cc = st ∧ 84 ≤ st ∧ len ≤ 300
def ldN (n : Nat) (W P SN : Nat → Nat) (C : Nat) : Nat := SN C + sumN (fun p => if P p = C then W p else 0) n
noncomputable def ldI (n : Nat) (W P SN : Nat → Nat) (v : Int32) : Int32 := @ite _ (ib v 9) (mcD _) (nI (ldN n W P SN (ix v))) 0
theorem rI_rI (h : MH) (a : Nat) (f g : Nat → Int32) : rI (rI h a f) a g = rI h a g := by
  unfold rI
  congr 2
  funext b
  by_cases e : b = a
  · rw [if_pos e, if_pos e]
  · rw [if_neg e, if_neg e]
    exact if_neg e
theorem sI_rI (h : MH) (a k : Nat) (f : Nat → Int32) (v : Int32) : sI (rI h a f) a k v = rI h a (va_up f k v) := by
  unfold sI
  rw [rI_rI]
  congr 2
  unfold gI rI
  simp
theorem gI_rI' (h : MH) (a b : Nat) (f : Nat → Int32) (hb : ¬ b = a) : gI (rI h a f) b = gI h b := by
  rw [gI_rI, if_neg hb]
theorem gI_rIs (h : MH) (a : Nat) (f : Nat → Int32) : gI (rI h a f) a = f := by
  rw [gI_rI, if_pos rfl]
theorem rI_self (h : MH) (a : Nat) : rI h a (gI h a) = h := by
  unfold rI gI
  have : (fun b => if b = a then h.2.1 a else h.2.1 b) = h.2.1 := by
    funext b
    by_cases e : b = a
    · rw [if_pos e, e]
    · rw [if_neg e]
  rw [this]
theorem tAt_lt {q : Nat} (T : tAt q) : q + 6 < 84 ∧ 10 ≤ q := by rcases T with rfl | rfl | rfl <;> omega
theorem twn_rI {h : MH} {q n : Nat} {W P SN : Nat → Nat} (t : twn h q n W P SN) {a : Nat} {f : Nat → Int32} (ha : ¬ q = a ∧ ¬ q + 1 = a ∧ ¬ q + 2 = a ∧ ¬ q + 4 = a) : twn (rI h a f) q n W P SN := by
  unfold twn
  rw [gI_rI' _ _ _ _ ha.1, gI_rI' _ _ _ _ ha.2.1, gI_rI' _ _ _ _ ha.2.2.1, gI_rI' _ _ _ _ ha.2.2.2]
  exact t
section EVC
theorem c_ofOne {h : MH} (L : lay h) (d : Nat) (op a : Int32) : F_X3_ofOne (d + 1) op a h = some (.int (cOne op a), h) := by
  rw [S_X3_ofOne L d]
  unfold cOne
  split
  · rfl
  · split
    · split
      · split <;> rfl
      · rfl
    · split <;> rfl
theorem c_ofTwo {h : MH} (L : lay h) (d : Nat) (op a b : Int32) : F_X3_ofTwo (d + 1) op a b h = some (.int (cTwo op a b), h) := by
  have k : ∀ (x y z : Int32) (v : Int64), G_X3_ofTwo_84 d x y z v h = some (.int (cCl v), h) := by
    intro x y z v
    rw [S_X3_ofTwo_84 L d]
    unfold cCl
    split
    · split <;> rfl
    · rfl
  rw [S_X3_ofTwo L d]
  simp only [lt_def, k, S_X3_ofTwo_83 L]
  unfold cTwo
  by_cases hb : b = 0
  · simp only [hb, if_true, apply_ite (fun x : Int32 => some (Value.int x, h))]
  · simp only [hb, if_false, ck_pos hb, not_false_eq_true, ck_true, apply_ite (fun x : Int32 => some (Value.int x, h))]
theorem c_load {h : MH} (L : lay h) (d : Nat) {q : Nat} (T : tAt q) {n : Nat} {W : Nat → Nat} {P : Nat → Nat} {SN : Nat → Nat} (t : twn h q n W P SN) {l : Nat} {cc : Nat} {st : Nat} {len : Nat} (A : lawAt h l cc st len) (v : Int32) (f : Nat → Int32) : F_X9_weightAt (d + 1) q v (rI h st f) = some (.int (ldI n W P SN v), rI h st f) := by
  have hT := tAt_lt T
  obtain ⟨a1, a2, a3, a4, a5, a6, a7, a8, a9, a10⟩ := A
  have L' : lay (rI h st f) := lay_rI L (by omega)
  have t' : twn (rI h st f) q n W P SN := twn_rI t (by omega)
  unfold ldI
  by_cases hv : ib v 9
  · obtain ⟨j, hj, rfl⟩ := ib_at hv (by omega)
    rw [if_pos hv, c_weightAt L' d T t' hj, ix_nI (by omega)]
    rfl
  · rw [if_neg hv, c_weightAt0 L' d T t' hv]
/-- a step of the pure machine is a round of the loop -/
theorem c_step {h : MH} (L : lay h) (d : Nat) {q : Nat} (T : tAt q) {n : Nat} {W : Nat → Nat} {P : Nat → Nat} {SN : Nat → Nat} (t : twn h q n W P SN) {l : Nat} {cc : Nat} {st : Nat} {len : Nat} (A : lawAt h l cc st len) {s s' : CS} (hs : cst (gI h cc) (gI h (q + 6)) (ldI n W P SN) len s = some s') (p : Int32) (i : Nat) (hi : i < len) (htop : s.2.1 ≤ 64) (o6 o7 : Option Value) : ∃ o6' o7', G_X3_valueFor_9 (d + 1) q l p (nI s.2.1) (nI s.1) (nI i) o6 o7 (rI h st s.2.2) = G_X3_valueFor_9 (d + 1) q l p (nI s'.2.1) (nI s'.1) (nI (i + 1)) o6' o7' (rI h st s'.2.2) := by
  have hT := tAt_lt T
  have A' := A
  obtain ⟨a1, a2, a3, a4, a5, a6, a7, a8, a9, a10⟩ := A
  obtain ⟨nx, top, f⟩ := s
  have L' : ∀ g, lay (rI h st g) := fun g => lay_rI L (by omega)
  have gq : ∀ g, gI (rI h st g) (q + 6) = gI h (q + 6) := fun g => gI_rI' _ _ _ _ (by omega)
  have gc : ∀ g, gI (rI h st g) cc = gI h cc := fun g => gI_rI' _ _ _ _ a8
  have kk : ∀ g b, kd (rI h st g) b = kd h b := fun _ _ => rfl
  have ll : ∀ g b, ln (rI h st g) b = ln h b := fun _ _ => rfl
  have rr : ∀ g b, gR (rI h st g) b = gR h b := fun _ _ => rfl
  unfold cst at hs
  dsimp only at hs htop ⊢
  obtain ⟨hn, hs⟩ := ite_none hs
  have hend : ∀ {x y : Int32} {tp nxt : Nat} {g : Nat → Int32}, s' = (nxt, tp, g) → ∃ o6' o7', G_X3_valueFor_160 (d + 1) q l p (nI tp) (nI nxt) (nI i) x y (rI h st g) = G_X3_valueFor_9 (d + 1) q l p (nI s'.2.1) (nI s'.1) (nI (i + 1)) o6' o7' (rI h st s'.2.2) := by
    rintro x y tp nxt g rfl
    exact ⟨some (.int x), some (.int y), by rw [S_X3_valueFor_160 (L' g) (d + 1) q T, nI_1]⟩
  rw [S_X3_valueFor_9 (L' f) (d + 1) q T]
  simp (disch := omega) only [kk, ll, rr, a1, a2, a3, a4, a5, a6, a7, gc, nI_ltI, nI_leI, nI_eq, nIl, nIL, nIe, nIz, ib_nIi, ib_L, ix_L, ck_pos, if_pos, if_neg, lt_def, ck_true, true_and, and_true, true_or, or_true, ix_nI, nI_1, nIa, nIb, nI_add, cI_some, cR_some, cL_some, cV_some, if_true, if_false, Bool.false_eq_true, ne_eq, not_true_eq_false, not_false_eq_true, show (20 ≤ 20 ∧ ¬ 20 = 25 ∧ 20 ≤ 26) = True by decide, show ((20 = 20 ∨ 20 = 24) ∧ True) = True by decide, true_or, true_and]
  by_cases h0 : gI h cc nx &&& 31 = 0
  · rw [if_pos h0] at hs
    obtain ⟨h64, hs⟩ := ite_none hs
    cases hs
    simp (disch := omega) only [h0, nI_ltI, nI_leI, nI_eq, nIl, nIL, nIe, nIz, ib_nIi, ib_L, ix_L, ck_pos, if_pos, if_neg, lt_def, ck_true, true_and, and_true, true_or, or_true, ix_nI, nI_1, nIa, nIb, nI_add, cI_some, cR_some, cL_some, cV_some, if_true, if_false, Bool.false_eq_true, ne_eq, not_true_eq_false, not_false_eq_true, sI_rI]
    exact hend rfl
  rw [if_neg h0] at hs
  rw [if_neg h0]
  rw [S_X3_valueFor_46 (L' f) (d + 1) q T]
  by_cases h1 : gI h cc nx &&& 31 = 1
  · rw [if_pos h1] at hs
    obtain ⟨⟨h64, h7⟩, hs⟩ := ite_none hs
    obtain ⟨j, hj, ej⟩ := ib_at h7 (by omega)
    rw [ej, ix_nI (by omega)] at hs
    cases hs
    rw [ej]
    simp (disch := omega) only [h1, kk, ll, rr, a1, a2, a3, a4, a5, a6, a7, gq, nI_ltI, nI_leI, nI_eq, nIl, nIL, nIe, nIz, ib_nIi, ib_L, ix_L, ck_pos, if_pos, if_neg, lt_def, ck_true, true_and, and_true, true_or, or_true, ix_nI, nI_1, nIa, nIb, nI_add, cI_some, cR_some, cL_some, cV_some, if_true, if_false, Bool.false_eq_true, ne_eq, not_true_eq_false, not_false_eq_true, sI_rI, true_and]
    exact hend rfl
  rw [if_neg h1] at hs
  rw [if_neg h1, S_X3_valueFor_65 (L' f) (d + 1) q T]
  by_cases h2 : gI h cc nx &&& 31 = 2
  · rw [if_pos h2] at hs
    obtain ⟨⟨tt, ht1, ht2, et⟩, hs⟩ := ite_none hs
    rw [et, ix_nI (by omega)] at hs
    cases hs
    rw [et]
    simp (disch := omega) only [h2, nI_ltI, nI_leI, nI_eq, nIl, nIL, nIe, nIz, ib_nIi, ib_L, ix_L, ck_pos, if_pos, if_neg, lt_def, ck_true, true_and, and_true, true_or, or_true, ix_nI, nI_1, nIa, nIb, nI_add, cI_some, cR_some, cL_some, cV_some, if_true, if_false, Bool.false_eq_true, ne_eq, not_true_eq_false, not_false_eq_true, S_X3_valueFor_74 (L' f) (d + 1) q T]
    exact hend rfl
  rw [if_neg h2] at hs
  rw [if_neg h2]
  by_cases h3 : gI h cc nx &&& 31 = 3
  · rw [if_pos h3] at hs
    obtain ⟨⟨htp, tt, ht1, ht2, et⟩, hs⟩ := ite_none hs
    obtain ⟨tp, rfl⟩ : ∃ tp, top = tp + 1 := ⟨top - 1, by omega⟩
    rw [et, ix_nI (by omega), Nat.add_sub_cancel] at hs
    rw [et, pk_m1]
    by_cases hz : f tp = 0
    · rw [if_pos hz] at hs
      cases hs
      simp (disch := omega) only [h3, hz, kk, ll, rr, a1, a3, a6, a7, nI_ltI, nI_leI, nI_eq, nIl, nIL, nIe, nIz, ib_nIi, ib_L, ix_L, ck_pos, if_pos, if_neg, lt_def, ck_true, true_and, and_true, true_or, or_true, ix_nI, nI_1, nIa, nIb, nI_add, cI_some, cR_some, cL_some, cV_some, if_true, if_false, Bool.false_eq_true, ne_eq, not_true_eq_false, not_false_eq_true, gI_rIs, S_X3_valueFor_93 (L' f) (d + 1) q T, true_or, true_and]
      exact hend rfl
    · rw [if_neg hz] at hs
      cases hs
      simp (disch := omega) only [h3, hz, kk, ll, rr, a1, a3, a6, a7, nI_ltI, nI_leI, nI_eq, nIl, nIL, nIe, nIz, ib_nIi, ib_L, ix_L, ck_pos, if_pos, if_neg, lt_def, ck_true, true_and, and_true, true_or, or_true, ix_nI, nI_1, nIa, nIb, nI_add, cI_some, cR_some, cL_some, cV_some, if_true, if_false, Bool.false_eq_true, ne_eq, not_true_eq_false, not_false_eq_true, gI_rIs, S_X3_valueFor_92 (L' f) (d + 1) q T, S_X3_valueFor_93 (L' f) (d + 1) q T, true_or, true_and]
      exact hend rfl
  rw [if_neg h3] at hs
  rw [if_neg h3, S_X3_valueFor_95 (L' f) (d + 1) q T]
  by_cases h6 : gI h cc nx &&& 31 = 6
  · rw [if_pos h6] at hs
    obtain ⟨htp, hs⟩ := ite_none hs
    obtain ⟨tp, rfl⟩ : ∃ tp, top = tp + 1 := ⟨top - 1, by omega⟩
    rw [Nat.add_sub_cancel] at hs
    cases hs
    rw [nI_pred]
    simp (disch := omega) only [h6, kk, ll, rr, a1, a3, a6, a7, nI_ltI, nI_leI, nI_eq, nIl, nIL, nIe, nIz, ib_nIi, ib_L, ix_L, ck_pos, if_pos, if_neg, lt_def, ck_true, true_and, and_true, true_or, or_true, ix_nI, nI_1, nIa, nIb, nI_add, cI_some, cR_some, cL_some, cV_some, if_true, if_false, Bool.false_eq_true, ne_eq, not_true_eq_false, not_false_eq_true, gI_rIs, c_load L d T t A', sI_rI, true_or, true_and]
    exact hend rfl
  rw [if_neg h6] at hs
  rw [if_neg h6, S_X3_valueFor_115 (L' f) (d + 1) q T]
  by_cases h8 : gI h cc nx &&& 31 < 8
  · rw [if_pos h8] at hs
    obtain ⟨htp, hs⟩ := ite_none hs
    obtain ⟨tp, rfl⟩ : ∃ tp, top = tp + 1 := ⟨top - 1, by omega⟩
    rw [Nat.add_sub_cancel] at hs
    cases hs
    rw [nI_pred]
    simp (disch := omega) only [h8, kk, ll, rr, a1, a3, a6, a7, nI_ltI, nI_leI, nI_eq, nIl, nIL, nIe, nIz, ib_nIi, ib_L, ix_L, ck_pos, if_pos, if_neg, lt_def, ck_true, true_and, and_true, true_or, or_true, ix_nI, nI_1, nIa, nIb, nI_add, cI_some, cR_some, cL_some, cV_some, if_true, if_false, Bool.false_eq_true, ne_eq, not_true_eq_false, not_false_eq_true, gI_rIs, c_ofOne (L' f), sI_rI, true_or, true_and]
    exact hend rfl
  rw [if_neg h8] at hs
  rw [if_neg h8, S_X3_valueFor_135 (L' f) (d + 1) q T]
  obtain ⟨htp, hs⟩ := ite_none hs
  obtain ⟨tp, rfl⟩ : ∃ tp, top = tp + 2 := ⟨top - 2, by omega⟩
  rw [Nat.add_sub_cancel, show tp + 2 - 1 = tp + 1 by omega] at hs
  cases hs
  rw [show nI (tp + 2) + (-1) = nI (tp + 1) from pk_m1 (tp + 1), nI_pred]
  simp (disch := omega) only [h8, kk, ll, rr, a1, a3, a6, a7, nI_ltI, nI_leI, nI_eq, nIl, nIL, nIe, nIz, ib_nIi, ib_L, ix_L, ck_pos, if_pos, if_neg, lt_def, ck_true, true_and, and_true, true_or, or_true, ix_nI, nI_1, nIa, nIb, nI_add, cI_some, cR_some, cL_some, cV_some, if_true, if_false, Bool.false_eq_true, ne_eq, not_true_eq_false, not_false_eq_true, gI_rIs, c_ofTwo (L' f), sI_rI, true_or, true_and]
  exact hend rfl
end EVC
