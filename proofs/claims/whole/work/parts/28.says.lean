--deps:19.lay 21.facts 22.00.names 22.01.eq 22.02.eq 22.03.eq 22.04.eq 22.05.eq 22.06.eq 22.07.eq 22.08.eq 22.09.eq 22.10.eq 22.11.eq 22.12.eq 22.13.eq 22.14.eq 22.15.eq 22.16.eq 22.17.eq 22.18.eq 22.19.eq 22.20.eq 22.21.eq 22.22.eq 22.23.eq 23.num 24.town 25.evc 26.evm 27.law
/-! tipsNow, slides, on both sides -/
set_option linter.unusedSectionVars false
theorem cst_top {c nm : Nat → Int32} {ld : Int32 → Int32} {len : Nat} {s s' : CS} (hs : cst c nm ld len s = some s') (ht : s.2.1 ≤ 64) : s'.2.1 ≤ 64 := by
  unfold cst at hs
  obtain ⟨_, hs⟩ := ite_none hs
  by_cases c0 : c s.1 &&& 31 = 0
  · rw [if_pos c0] at hs; obtain ⟨q, hs⟩ := ite_none hs; cases hs; exact q
  rw [if_neg c0] at hs
  by_cases c1 : c s.1 &&& 31 = 1
  · rw [if_pos c1] at hs; obtain ⟨q, hs⟩ := ite_none hs; cases hs; exact q.1
  rw [if_neg c1] at hs
  by_cases c2 : c s.1 &&& 31 = 2
  · rw [if_pos c2] at hs; obtain ⟨q, hs⟩ := ite_none hs; cases hs; exact ht
  rw [if_neg c2] at hs
  by_cases c3 : c s.1 &&& 31 = 3
  · rw [if_pos c3] at hs; obtain ⟨q, hs⟩ := ite_none hs; cases hs; show s.2.1 - 1 ≤ 64; omega
  rw [if_neg c3] at hs
  by_cases c6 : c s.1 &&& 31 = 6
  · rw [if_pos c6] at hs; obtain ⟨q, hs⟩ := ite_none hs; cases hs; exact ht
  rw [if_neg c6] at hs
  by_cases c8 : c s.1 &&& 31 < 8
  · rw [if_pos c8] at hs; obtain ⟨q, hs⟩ := ite_none hs; cases hs; exact ht
  rw [if_neg c8] at hs
  obtain ⟨q, hs⟩ := ite_none hs; cases hs; show s.2.1 - 1 ≤ 64; omega
theorem mvs_i {t : Nat → Int32} {cb : Nat} {nm : Nat → Int32} {ld : Int64 → Int64} {s s' : MS} (hs : mvs t cb nm ld s = some s') : s'.1 = s.1 + 1 := by
  unfold mvs at hs
  by_cases c0 : t (cb + 2 * s.1) = 0
  · rw [if_pos c0] at hs; obtain ⟨_, hs⟩ := ite_none hs; cases hs; rfl
  rw [if_neg c0] at hs
  by_cases c1 : t (cb + 2 * s.1) = 1
  · rw [if_pos c1] at hs; obtain ⟨_, hs⟩ := ite_none hs; cases hs; rfl
  rw [if_neg c1] at hs
  by_cases c2 : t (cb + 2 * s.1) = 3
  · rw [if_pos c2] at hs; obtain ⟨_, hs⟩ := ite_none hs; cases hs; rfl
  rw [if_neg c2] at hs
  by_cases c3 : t (cb + 2 * s.1) = 2 ∨ t (cb + 2 * s.1) = 4 ∨ t (cb + 2 * s.1) = 5
  · rw [if_pos c3] at hs; obtain ⟨_, hs⟩ := ite_none hs; cases hs; rfl
  rw [if_neg c3] at hs
  by_cases c4 : 5 < t (cb + 2 * s.1) ∧ t (cb + 2 * s.1) < 10
  · rw [if_pos c4] at hs; obtain ⟨_, hs⟩ := ite_none hs; cases hs; rfl
  rw [if_neg c4] at hs
  by_cases c5 : 10 ≤ t (cb + 2 * s.1) ∧ t (cb + 2 * s.1) < 20
  · rw [if_pos c5] at hs; obtain ⟨_, hs⟩ := ite_none hs; cases hs; rfl
  rw [if_neg c5] at hs
  by_cases c6 : t (cb + 2 * s.1) = 20
  · rw [if_pos c6] at hs; obtain ⟨_, hs⟩ := ite_none hs; cases hs; rfl
  rw [if_neg c6] at hs
  obtain ⟨_, hs⟩ := ite_none hs; obtain ⟨_, hs⟩ := ite_none hs; cases hs; rfl
/-- a clause of the reference that says v -/
def lwM (h : MH) (N t k : Nat) (v : Den) : Prop := ∃ a b, gI h 70 (681 * t + 3 * k + 2) = nI a ∧ gI h 70 (681 * t + 3 * k + 3) = nI b ∧ a ≤ b ∧ b ≤ 303 ∧ EvM (gI h 70) (681 * t + 73) a b N v
def lwMO (h : MH) (N tx cnt srt : Nat) (o : Option Den) : Prop := match o with
  | none => ∀ k, k < cnt → ¬ gI h 70 (681 * tx + 3 * k + 1) = nI srt
  | some v => ∃ k, k < cnt ∧ gI h 70 (681 * tx + 3 * k + 1) = nI srt ∧ (∀ j, j < k → ¬ gI h 70 (681 * tx + 3 * j + 1) = nI srt) ∧ lwM h N tx k v ∧ okD v
def txM (h : MH) (tx : Nat) (dt ds : Option Den) : Prop := ∃ cnt, cnt ≤ 24 ∧ gI h 70 (681 * tx) = nI cnt ∧ lwMO h 4 tx cnt 0 dt ∧ lwMO h 7 tx cnt 1 ds
def rlM (h : MH) (x : Int32) (dt ds : Option Den) : Prop := x = -1 ∧ dt = none ∧ ds = none ∨ ∃ tx, tx < 4 ∧ x = nI tx ∧ txM h tx dt ds
theorem lwMO_eq {h h' : MH} {N tx cnt srt : Nat} {o : Option Den} (e : gI h' 70 = gI h 70) (w : lwMO h N tx cnt srt o) : lwMO h' N tx cnt srt o := by
  unfold lwMO lwM at *
  rw [e]
  exact w
section LW
section
theorem c_run {h : MH} (L : lay h) (d : Nat) {q : Nat} (T : tAt q) {n : Nat} {W : Nat → Nat} {P : Nat → Nat} {SN : Nat → Nat} (t : twn h q n W P SN) {l : Nat} {cc : Nat} {st : Nat} {len : Nat} (A : lawAt h l cc st len) (p : Int32) : ∀ (k : Nat) (s s' : CS) (i : Nat) (o6 o7 : Option Value), crn (gI h cc) (gI h (q + 6)) (ldI n W P SN) len k s = some s' → i + k ≤ len → s.2.1 ≤ 64 → ∃ o6' o7', G_X3_valueFor_9 (d + 1) q l p (nI s.2.1) (nI s.1) (nI i) o6 o7 (rI h st s.2.2) = G_X3_valueFor_9 (d + 1) q l p (nI s'.2.1) (nI s'.1) (nI (i + k)) o6' o7' (rI h st s'.2.2) := by
  intro k
  induction k with
  | zero =>
    intro s s' i o6 o7 hs hi ht
    cases hs
    exact ⟨o6, o7, rfl⟩
  | succ k ih =>
    intro s s' i o6 o7 hs hi ht
    rw [crn] at hs
    cases hc : cst (gI h cc) (gI h (q + 6)) (ldI n W P SN) len s with
    | none => rw [hc] at hs; cases hs
    | some s1 =>
      rw [hc] at hs
      obtain ⟨x, y, e1⟩ := c_step L d T t A hc p i (by omega) ht o6 o7
      obtain ⟨x2, y2, e2⟩ := ih s1 s' (i + 1) x y hs (by omega) (cst_top hc ht)
      exact ⟨x2, y2, by rw [e1, e2]; congr 2; omega⟩
theorem c_value9 {h : MH} (L : lay h) (d : Nat) {q : Nat} (T : tAt q) {n : Nat} {W : Nat → Nat} {P : Nat → Nat} {SN : Nat → Nat} (t : twn h q n W P SN) {l : Nat} {cc : Nat} {st : Nat} {len : Nat} (A : lawAt h l cc st len) {v : Den} {need : Nat} (hv : EvC (gI h cc) 0 len need v) (hneed : need ≤ 64) {nm : Nat → Int} (he : envI nm (ldZ n W P SN) (gI h (q + 6)) (ldI n W P SN)) (p : Int32) : ∃ f, G_X3_valueFor_9 (d + 1) q l p 0 0 0 none none h = some (.int (zI (v nm (ldZ n W P SN))), rI h st f) := by
  have A' := A
  obtain ⟨a1, a2, a3, a4, a5, a6, a7, a8, a9, a10⟩ := A
  obtain ⟨k, f', hk, hr, -, hf⟩ := hv len nm (ldZ n W P SN) (gI h (q + 6)) (ldI n W P SN) (Nat.le_refl _) he 0 (gI h st) (by omega)
  obtain ⟨x, y, e⟩ := c_run L d T t A' p k _ _ 0 none none hr (by omega) (by dsimp only; omega)
  refine ⟨f', ?_⟩
  dsimp only at e
  rw [rI_self] at e
  refine e.trans ?_
  have L' : lay (rI h st f') := lay_rI L (by omega)
  have kk : ∀ g b, kd (rI h st g) b = kd h b := fun _ _ => rfl
  have ll : ∀ g b, ln (rI h st g) b = ln h b := fun _ _ => rfl
  have rr : ∀ g b, gR (rI h st g) b = gR h b := fun _ _ => rfl
  rw [S_X3_valueFor_9 L' (d + 1) q T]
  simp (disch := omega) only [kk, ll, rr, a1, a2, a3, a4, a5, a6, a7, nI_nlt (Nat.le_refl len), S_X3_valueFor_162 L' (d + 1) q T, nI_ltI, nI_leI, nI_eq, nIl, nIL, nIe, nIz, ib_nIi, ib_L, ix_L, ck_pos, if_pos, if_neg, lt_def, ck_true, true_and, and_true, true_or, or_true, ix_nI, nI_1, nIa, nIb, nI_add, cI_some, cR_some, cL_some, cV_some, if_true, if_false, Bool.false_eq_true, ne_eq, not_true_eq_false, not_false_eq_true, show (20 ≤ 20 ∧ ¬ 20 = 25 ∧ 20 ≤ 26) = True by decide, ite_self, gI_rIs, hf, nI_pred]
end
theorem sI_def (h : MH) (a k : Nat) (v : Int32) : sI h a k v = rI h a (va_up (gI h a) k v) := rfl
section
theorem c_tell37 {h : MH} (L : lay h) (d : Nat) {q : Nat} (T : tAt q) {n : Nat} {W : Nat → Nat} {P : Nat → Nat} {SN : Nat → Nat} (t : twn h q n W P SN) {H : Nat} (eH : gI h q 5 = nI H) (p : Int32) : F_X9_tellNames (d + 1) q p h = G_X9_tellNames_37 d q p (zI (tipZ n W P SN)) (nI (sumN W n)) (nI (sumN SN 9)) (nI 9) h := by
  obtain ⟨hn, e0, hW, hP, hS⟩ := t
  rw [S_X9_tellNames L d q _ T]
  refine (loop_all (n := n) (F := fun i => G_X9_tellNames_6 d q p (zI (sumZ (fun p => (W p : Int) * ((P p : Int) - 4)) i)) (nI (sumN W i)) (nI i) h) (fun i hi => ?_)).trans ?_
  · show G_X9_tellNames_6 _ _ _ _ _ _ _ = _
    rw [S_X9_tellNames_6 L d q T]
    simp (disch := omega) only [e0, hW, hP, nI_ltI, nI_leI, nI_eq, nIl, nIL, nIe, nIz, ib_nIi, ib_L, ix_L, ck_pos, if_pos, if_neg, lt_def, ck_true, true_and, and_true, true_or, or_true, ix_nI, nI_1, nIa, nIb, nI_add, cI_some, cR_some, cL_some, cV_some, if_true, if_false, Bool.false_eq_true, ne_eq, not_true_eq_false, not_false_eq_true, sumN_s i]
    simp only [nI_zI, lit_zI, zI_add, zI_mul, zI_sub, zI_neg, if_true, if_false, Bool.false_eq_true, sumZ_s i]
    rfl
  · show G_X9_tellNames_6 _ _ _ _ _ _ _ = _
    rw [S_X9_tellNames_6 L d q T]
    simp (disch := omega) only [e0, nI_ltI, nI_leI, nI_eq, nIl, nIL, nIe, nIz, ib_nIi, ib_L, ix_L, ck_pos, if_pos, if_neg, lt_def, ck_true, true_and, and_true, true_or, or_true, ix_nI, nI_1, nIa, nIb, nI_add, cI_some, cR_some, cL_some, cV_some, if_true, if_false, Bool.false_eq_true, ne_eq, not_true_eq_false, not_false_eq_true]
    refine (congrArg (fun z => G_X9_tellNames_37 d q p (zI z) (nI (sumN W n)) (nI 0) (nI 0) h) (Int.add_zero _).symm).trans ?_
    refine (loop_all (n := 9) (F := fun i => G_X9_tellNames_37 d q p (zI (sumZ (fun p => (W p : Int) * ((P p : Int) - 4)) n + sumZ (fun c => (SN c : Int) * ((c : Int) - 4)) i)) (nI (sumN W n)) (nI (sumN SN i)) (nI i) h) (fun i hi => ?_)).trans ?_
    · show G_X9_tellNames_37 _ _ _ _ _ _ _ _ = _
      rw [S_X9_tellNames_37 L d q T]
      rw [if_pos ((nIl (by omega) (by omega)).mpr hi)]
      simp (disch := omega) only [hS, ck_pos, ib_nIi, ix_nI, lt_def, nI_1, nI_add, sumN_s i]
      simp only [nI_zI, lit_zI, zI_add, zI_mul, zI_sub, zI_neg, if_true, if_false, Bool.false_eq_true, sumZ_s i, Int.add_assoc]
      rfl
    · rfl
theorem c_tellNone {h : MH} (L : lay h) (d : Nat) {q : Nat} (T : tAt q) {n : Nat} {W : Nat → Nat} {P : Nat → Nat} {SN : Nat → Nat} (t : twn h q n W P SN) {H : Nat} (eH : gI h q 5 = nI H) : ∃ f, F_X9_tellNames (d + 1) q (-1) h = some (.int 0, rI h (q + 6) f) ∧ ∀ k, k < 7 → f k = zI (nmZ n W P SN H none k) := by
  have hT := tAt_lt T
  rw [c_tell37 L d T t eH]
  have L' : ∀ f, lay (rI h (q + 6) f) := fun f => lay_rI L (by omega)
  have g0 : ∀ f, gI (rI h (q + 6) f) q = gI h q := fun f => gI_rI' _ _ _ _ (by omega)
  rw [S_X9_tellNames_37 L d q T, if_neg (by decide +kernel)]
  simp only [sI_def h, lt_def, sI_rI, eH]
  rw [if_pos (by decide), S_X9_tellNames_91 (L' _) d q T, S_X9_tellNames_92 (L' _) d q T, if_pos rfl, S_X9_tellNames_101 (L' _) d q T, ck_pos (ib_lit (i := 4) (n := 4) rfl (by decide) (by decide)), ix_lit (i := 4) (n := 4) rfl (by decide), lt_def, sI_rI, if_pos rfl, S_X9_tellNames_113 (L' _) d q T, ck_pos (ib_lit (i := 5) (n := 5) rfl (by decide) (by decide)), ix_lit (i := 5) (n := 5) rfl (by decide), lt_def, sI_rI, if_pos rfl, S_X9_tellNames_125 (L' _) d q T, ck_pos (ib_lit (i := 6) (n := 6) rfl (by decide) (by decide)), ix_lit (i := 6) (n := 6) rfl (by decide), lt_def, sI_rI]
  refine ⟨_, rfl, fun k hk => ?_⟩
  match k, hk with
  | 0, _ => exact nI_zI H
  | 1, _ => rfl
  | 2, _ => show nI (sumN W n) + nI (sumN SN 9) = _; rw [nI_add, nI_zI]; rfl
  | 3, _ => exact nI_zI _
  | 4, _ => rfl
  | 5, _ => rfl
  | 6, _ => rfl
theorem c_tellSome {h : MH} (L : lay h) (d : Nat) {q : Nat} (T : tAt q) {n : Nat} {W : Nat → Nat} {P : Nat → Nat} {SN : Nat → Nat} (t : twn h q n W P SN) {H : Nat} (eH : gI h q 5 = nI H) {j : Nat} (hj : j < n) : ∃ f, F_X9_tellNames (d + 1) q (nI j) h = some (.int 0, rI h (q + 6) f) ∧ ∀ k, k < 7 → f k = zI (nmZ n W P SN H (some j) k) := by
  have hT := tAt_lt T
  rw [c_tell37 L d T t eH]
  obtain ⟨hn, e0, hW, hP, hS⟩ := t
  have L' : ∀ f, lay (rI h (q + 6) f) := fun f => lay_rI L (by omega)
  have g0 : ∀ f, gI (rI h (q + 6) f) q = gI h q := fun f => gI_rI' _ _ _ _ (by omega)
  have g1 : ∀ f, gI (rI h (q + 6) f) (q + 1) = gI h (q + 1) := fun f => gI_rI' _ _ _ _ (by omega)
  have g2 : ∀ f, gI (rI h (q + 6) f) (q + 2) = gI h (q + 2) := fun f => gI_rI' _ _ _ _ (by omega)
  rw [S_X9_tellNames_37 L d q T, if_neg (by decide +kernel)]
  simp only [sI_def h, lt_def, sI_rI, eH, g0, e0]
  rw [if_neg (nIz (by omega)), if_pos (nI_lt hj (by omega)), S_X9_tellNames_92 (L' _) d q T, if_neg (by decide), S_X9_tellNames_101 (L' _) d q T, ck_pos (ib_lit (i := 4) (n := 4) rfl (by decide) (by decide)), ix_lit (i := 4) (n := 4) rfl (by decide), lt_def, sI_rI, if_neg (by decide), ck_pos (ib_nI (by omega) (by omega)), ix_nI (by omega), g1, (hW j hj).1, S_X9_tellNames_113 (L' _) d q T, ck_pos (ib_lit (i := 5) (n := 5) rfl (by decide) (by decide)), ix_lit (i := 5) (n := 5) rfl (by decide), lt_def, sI_rI, if_neg (by decide), ck_pos (ib_nI (by omega) (by omega)), ix_nI (by omega), g2, (hP j hj).1, S_X9_tellNames_125 (L' _) d q T, ck_pos (ib_lit (i := 6) (n := 6) rfl (by decide) (by decide)), ix_lit (i := 6) (n := 6) rfl (by decide), lt_def, sI_rI]
  refine ⟨_, rfl, fun k hk => ?_⟩
  match k, hk with
  | 0, _ => exact nI_zI H
  | 1, _ => rfl
  | 2, _ => show nI (sumN W n) + nI (sumN SN 9) = _; rw [nI_add, nI_zI]; rfl
  | 3, _ => exact nI_zI _
  | 4, _ => exact nI_zI j
  | 5, _ => exact nI_zI _
  | 6, _ => exact nI_zI _
end
/-- a class's law that says v -/
def lwC (h : MH) (l : Nat) (v : Den) : Prop := ∃ cc st len need, lawAt h l cc st len ∧ 84 ≤ l ∧ 84 ≤ cc ∧ ¬ stk h cc ∧ EvC (gI h cc) 0 len need v ∧ need ≤ 64 ∧ okD v
theorem lwC_sm {Z : List Nat} {h h' : MH} (s : sm Z h h') {l : Nat} {v : Den} (w : lwC h l v) : lwC h' l v := by
  obtain ⟨cc, st, len, need, ⟨a1, a2, a3, a4, a5, a6, a7, a8, a9, a10⟩, hl, hc, hk, he, hn, ho⟩ := w
  have er : gR h' l = gR h l := sm_gR s (Or.inr hl)
  refine ⟨cc, st, len, need, ⟨(sm_kd s l).trans a1, by rw [er]; exact a2, by rw [er]; exact a3, (sm_kd s cc).trans a4, (sm_ln s cc).trans a5, (sm_kd s st).trans a6, (sm_ln s st).trans a7, a8, a9, a10⟩, hl, hc, fun q => hk ((sm_stk s cc).mp q), ?_, hn, ho⟩
  rw [s.2.2 cc (Or.inr hc) hk]
  exact he
section
theorem c_value {h : MH} (L : lay h) (d : Nat) {q : Nat} (T : tAt q) {n : Nat} {W : Nat → Nat} {P : Nat → Nat} {SN : Nat → Nat} (t : twn h q n W P SN) {H : Nat} (eH : gI h q 5 = nI H) (hH : H ≤ 9999) {l : Nat} {v : Den} (w : lwC h l v) {p : Int32} {who : Option Nat} (hw : p = -1 ∧ who = none ∨ ∃ j, j < n ∧ p = nI j ∧ who = some j) : ∃ h', F_X3_valueFor (d + 2) l q p h = some (.int (zI (v (nmZ n W P SN H who) (ldZ n W P SN))), h') ∧ sm [q + 6] h h' := by
  have hT := tAt_lt T
  have hf : ∃ f, F_X9_tellNames (d + 1) q p h = some (.int 0, rI h (q + 6) f) ∧ ∀ k, k < 7 → f k = zI (nmZ n W P SN H who k) := by
    rcases hw with ⟨rfl, rfl⟩ | ⟨j, hj, rfl, rfl⟩
    · exact c_tellNone L d T t eH
    · exact c_tellSome L d T t eH hj
  have hwho : ∀ j, who = some j → j < n := by
    rcases hw with ⟨-, rfl⟩ | ⟨j, hj, -, rfl⟩
    · intro j e; cases e
    · intro j' e; cases e; exact hj
  obtain ⟨f, e, hfk⟩ := hf
  have s1 : sm [q + 6] h (rI h (q + 6) f) := sm_rI (Or.inl ⟨List.mem_singleton.mpr rfl, by omega⟩)
  have L1 : lay (rI h (q + 6) f) := lay_rI L (by omega)
  have t1 : twn (rI h (q + 6) f) q n W P SN := twn_rI t (by omega)
  obtain ⟨cc, st, len, need, A, hl, hc, hk, he, hn, ho⟩ := lwC_sm s1 w
  have env : envI (nmZ n W P SN H who) (ldZ n W P SN) (gI (rI h (q + 6) f) (q + 6)) (ldI n W P SN) := by
    refine ⟨env_ok (twn_tbd t) hH hwho, fun k hk => ?_, ldI_z n W P SN⟩
    rw [gI_rIs]
    exact hfk k hk
  obtain ⟨g, eg⟩ := c_value9 L1 d T t1 A he hn env p
  refine ⟨_, ?_, sm_trans s1 (sm_rI (Z := [q + 6]) (a := st) (f := g) (Or.inr ⟨A.2.2.2.2.2.2.2.2.1, l, hl, A.1, A.2.2.1⟩))⟩
  rw [S_X3_valueFor L (d + 1) _ _ _ T, e, cV_some]
  exact eg
end
/-- a value cut off at 0 and at a top -/
def clN (z : Int) (top : Nat) : Nat := min z.toNat top
theorem jcl {z : Int} (h1 : -1000000 ≤ z) (h2 : z ≤ 1000000) {top : Nat} (ht : top < 1000) : jmin (jmax (zI z) 0) (nI top) = nI (clN z top) := by
  have e0 : (0 : Int32) = zI 0 := by decide +kernel
  unfold jmax jmin clN
  rw [e0]
  by_cases c : z < 0
  · rw [if_pos ((zI_lt (by omega) (by omega)).mpr c), if_neg]
    · rw [show min z.toNat top = 0 by omega]; rfl
    · rw [nI_zI, zI_lt (by omega) (by omega)]; omega
  · rw [if_neg (fun q => c ((zI_lt (by omega) (by omega)).mp q))]
    obtain ⟨k, rfl⟩ : ∃ k : Nat, z = (k : Int) := ⟨z.toNat, by omega⟩
    rw [← nI_zI]
    by_cases c2 : top < k
    · rw [if_pos (nI_lt c2 (by omega))]; congr 1; omega
    · rw [if_neg (nI_nlt (by omega) (by omega))]; congr 1; omega
noncomputable def tpsN (dt : Option Den) (nm : Nat → Int) (ld : Int → Int) : Nat := match dt with
  | none => 9
  | some v => clN (v nm ld) 99
noncomputable def sldN (ds : Option Den) (nm : Nat → Int) (ld : Int → Int) : Nat := match ds with
  | none => 1
  | some v => clN (v nm ld) 3
theorem sldN_le (ds : Option Den) (nm : Nat → Int) (ld : Int → Int) : sldN ds nm ld ≤ 3 := by
  unfold sldN
  split
  · omega
  · unfold clN; omega
theorem tpsN_le (dt : Option Den) (nm : Nat → Int) (ld : Int → Int) : tpsN dt nm ld ≤ 99 := by
  unfold tpsN
  split
  · omega
  · unfold clN; omega
def lwO (h : MH) (l : Nat) (o : Option Den) : Prop := match o with
  | none => l = 0
  | some v => lwC h l v
def txC (h : MH) (r : Nat) (dt ds : Option Den) : Prop := kd h r = 9 ∧ 84 ≤ r ∧ lwO h (gR h r 0) dt ∧ lwO h (gR h r 1) ds
def rlC (h : MH) (r : Nat) (dt ds : Option Den) : Prop := r = 0 ∧ dt = none ∧ ds = none ∨ txC h r dt ds
theorem lwO_sm {Z : List Nat} {h h' : MH} (s : sm Z h h') {l : Nat} {o : Option Den} (w : lwO h l o) : lwO h' l o := by
  match o, w with
  | none, w => exact w
  | some v, w => exact lwC_sm s w
theorem txC_sm {Z : List Nat} {h h' : MH} (s : sm Z h h') {r : Nat} {dt ds : Option Den} (w : txC h r dt ds) : txC h' r dt ds := by
  obtain ⟨h1, h2, h3, h4⟩ := w
  unfold txC
  rw [sm_gR s (Or.inr h2)]
  exact ⟨(sm_kd s r).trans h1, h2, lwO_sm s h3, lwO_sm s h4⟩
theorem rlC_sm {Z : List Nat} {h h' : MH} (s : sm Z h h') {r : Nat} {dt ds : Option Den} (w : rlC h r dt ds) : rlC h' r dt ds := w.imp id (txC_sm s)
section
theorem c_tipsNow {h : MH} (L : lay h) (d : Nat) {q : Nat} (T : tAt q) {n : Nat} {W : Nat → Nat} {P : Nat → Nat} {SN : Nat → Nat} (t : twn h q n W P SN) {H : Nat} (eH : gI h q 5 = nI H) (hH : H ≤ 9999) {dt : Option Den} {ds : Option Den} (rl : rlC h (gR h q 9) dt ds) : ∃ h', F_X9_tipsNow (d + 3) q h = some (.int (nI (tpsN dt (nmZ n W P SN H none) (ldZ n W P SN))), h') ∧ sm [q + 6] h h' := by
  rw [S_X9_tipsNow L (d + 2) q T]
  rcases rl with ⟨e, rfl, rfl⟩ | ⟨h1, h2, h3, h4⟩
  · rw [if_pos e]
    exact ⟨h, rfl, sm_refl _ _⟩
  · rw [if_neg (by omega), ck_pos h1]
    match dt, h3 with
    | none, h3 =>
      rw [if_pos (show gR h (gR h q 9) 0 = 0 from h3)]
      exact ⟨h, rfl, sm_refl _ _⟩
    | some v, h3 =>
      have h5 : lwC h (gR h (gR h q 9) 0) v := h3
      obtain ⟨h', e, s⟩ := c_value L d T t eH hH h5 (p := -1) (who := none) (Or.inl ⟨rfl, rfl⟩)
      obtain ⟨cc, st, len, need, A, hl, hc, hk, he, hn, ho⟩ := h5
      have bd := ho _ _ (env_ok (twn_tbd t) hH (who := none) (fun _ q => by cases q))
      rw [if_neg (by omega), ck_pos h1, ck_pos A.1, e, cI_some]
      exact ⟨h', by rw [show (99 : Int32) = nI 99 from rfl, jcl bd.1 bd.2 (by omega)]; rfl, s⟩
theorem c_slidesBy {h : MH} (L : lay h) (d : Nat) {q : Nat} (T : tAt q) {n : Nat} {W : Nat → Nat} {P : Nat → Nat} {SN : Nat → Nat} (t : twn h q n W P SN) {H : Nat} (eH : gI h q 5 = nI H) (hH : H ≤ 9999) {dt : Option Den} {ds : Option Den} {r : Nat} (rl : rlC h r dt ds) {j : Nat} (hj : j < n) : ∃ h', F_X9_slidesBy (d + 3) q r (nI j) h = some (.int (nI (sldN ds (nmZ n W P SN H (some j)) (ldZ n W P SN))), h') ∧ sm [q + 6] h h' := by
  rw [S_X9_slidesBy L (d + 2) q _ _ T]
  rcases rl with ⟨e, rfl, rfl⟩ | ⟨h1, h2, h3, h4⟩
  · rw [if_pos e]
    exact ⟨h, rfl, sm_refl _ _⟩
  · rw [if_neg (by omega), ck_pos h1]
    match ds, h4 with
    | none, h4 =>
      rw [if_pos (show gR h r 1 = 0 from h4)]
      exact ⟨h, rfl, sm_refl _ _⟩
    | some v, h4 =>
      have h5 : lwC h (gR h r 1) v := h4
      obtain ⟨h', e, s⟩ := c_value L d T t eH hH h5 (p := nI j) (who := some j) (Or.inr ⟨j, hj, rfl, rfl⟩)
      obtain ⟨cc, st, len, need, A, hl, hc, hk, he, hn, ho⟩ := h5
      have bd := ho _ _ (env_ok (twn_tbd t) hH (who := some j) (fun _ q => by cases q; exact hj))
      rw [if_neg (by omega), ck_pos h1, ck_pos A.1, e, cI_some]
      exact ⟨h', by rw [show (3 : Int32) = nI 3 from rfl, jcl bd.1 bd.2 (by omega)]; rfl, s⟩
/-- the beam holds still by a law dt -/
noncomputable def still (n : Nat) (W P SN : Nat → Nat) (H : Nat) (dt : Option Den) : Prop := (tipZ n W P SN).natAbs ≤ tpsN dt (nmZ n W P SN H none) (ldZ n W P SN)
theorem c_holdsStill {h : MH} (L : lay h) (d : Nat) {q : Nat} (T : tAt q) {n : Nat} {W : Nat → Nat} {P : Nat → Nat} {SN : Nat → Nat} (t : twn h q n W P SN) {H : Nat} (eH : gI h q 5 = nI H) (hH : H ≤ 9999) {dt : Option Den} {ds : Option Den} (rl : rlC h (gR h q 9) dt ds) : ∃ h', F_X9_holdsStill (d + 4) q h = some (.int (bI (still n W P SN H dt)), h') ∧ sm [q + 6] h h' := by
  obtain ⟨h', e, s⟩ := c_tipsNow L d T t eH hH rl
  have tb := twn_b t
  have tl := tpsN_le dt (nmZ n W P SN H none) (ldZ n W P SN)
  refine ⟨h', ?_, s⟩
  rw [S_X9_holdsStill L (d + 3) q T, c_tipNow L (d + 2) T t, cI_some, e, cI_some, zI_abs (by omega), ← nI_zI]
  by_cases c : still n W P SN H dt
  · rw [bI_pos c, if_pos (nI_le c (by omega))]
  · rw [bI_neg c, if_neg (fun w => c ((nI_leI (by omega) (by omega)).mp w))]
end
/-! the reference's -/
section
theorem m_run {h : MH} (L : lay h) (d : Nat) {n : Nat} {W : Nat → Nat} {P : Nat → Nat} {SN : Nat → Nat} (t : mdl h n W P SN) {cb x hi : Nat} (hx : x + 2 < 2724) (ex : gI h 70 (x + 2) = nI hi) (hhi : hi < 1000) (hcb : cb + 2 * hi + 1 < 2724) (a1 a2 : Int32) : ∀ (k : Nat) (s s' : MS) (o8 o9 : Option Value), mvr (gI h 70) cb (gI h 73) (ldL n W P SN) k s = some s' → s.1 + k ≤ hi → ∃ o8' o9', G_X11_summedUp_27 (d + 5) a1 a2 (nI x) (nI cb) (nI s.2.1) (nI s.2.2.1) (nI s.1) o8 o9 (mvh h s.2.2.2.1 s.2.2.2.2) = G_X11_summedUp_27 (d + 5) a1 a2 (nI x) (nI cb) (nI s'.2.1) (nI s'.2.2.1) (nI s'.1) o8' o9' (mvh h s'.2.2.2.1 s'.2.2.2.2) := by
  intro k
  induction k with
  | zero =>
    intro s s' o8 o9 hs hi
    cases hs
    exact ⟨o8, o9, rfl⟩
  | succ k ih =>
    intro s s' o8 o9 hs hi
    rw [mvr] at hs
    cases hc : mvs (gI h 70) cb (gI h 73) (ldL n W P SN) s with
    | none => rw [hc] at hs; cases hs
    | some s1 =>
      rw [hc] at hs
      obtain ⟨x1, y1, e1⟩ := m_step L d t hx ex hhi hcb (by omega) hc a1 a2 o8 o9
      have h1 : s1.1 = s.1 + 1 := mvs_i hc
      obtain ⟨x2, y2, e2⟩ := ih s1 s' x1 y1 hs (by omega)
      exact ⟨x2, y2, e1.trans e2⟩
theorem m_summedUp {h : MH} (L : lay h) (d : Nat) {n : Nat} {W : Nat → Nat} {P : Nat → Nat} {SN : Nat → Nat} (t : mdl h n W P SN) {N tx k : Nat} {v : Den} (htx : tx < 4) (hk : k < 24) (w : lwM h N tx k v) {nm : Nat → Int} (env : envL nm (ldZ n W P SN) N (gI h 73) (ldL n W P SN)) : ∃ vals tru, F_X11_summedUp (d + 6) (nI tx) (nI k) h = some (.long (zL (v nm (ldZ n W P SN))), mvh h vals tru) := by
  obtain ⟨a, b, ea, eb, hab, hb, he⟩ := w
  obtain ⟨vals, tru, hr, -, -, hv⟩ := he nm _ _ _ env 0 0 (gL h 74) (gI h 75) (by omega) (by omega)
  refine ⟨vals, tru, ?_⟩
  rw [S_X11_summedUp L (d + 5)]
  have e1 : 681 * nI tx + 1 + 3 * nI k = nI (681 * tx + 3 * k + 1) := by
    rw [nIm, nIm, show nI (681 * tx) + 1 = nI (681 * tx + 1) from nI_add _ 1, nI_add]; congr 1; omega
  have e2 : 681 * nI tx + 73 = nI (681 * tx + 73) := by rw [nIm]; exact nI_add _ 73
  rw [lt_def, lt_def, e1, e2, show nI (681 * tx + 3 * k + 1) + 1 = nI (681 * tx + 3 * k + 2) from nI_add _ 1, ck_pos (ib_nI (by omega) (by omega)), lt_def, ix_nI (by omega), ea]
  obtain ⟨x, y, e⟩ := m_run L d t (cb := 681 * tx + 73) (x := 681 * tx + 3 * k + 1) (hi := b) (by omega) eb (by omega) (by omega) (nI tx) (nI k) (b - a) _ _ none none hr (by dsimp only; omega)
  dsimp only at e
  rw [mvh_self] at e
  refine e.trans ?_
  have L' := lay_mvh L vals tru
  rw [S_X11_summedUp_27 L' (d + 5), show nI (681 * tx + 3 * k + 1) + 2 = nI (681 * tx + 3 * k + 3) from nI_add _ 2, ck_pos (ib_nI (by omega) (by omega)), ix_nI (n := 681 * tx + 3 * k + 3) (by omega), gI_mvh (by decide), eb, if_neg (nI_nlt (Nat.le_refl b) (by omega)), gL_mvh, hv]
theorem m_cut {h : MH} (L : lay h) (d : Nat) {n : Nat} {W : Nat → Nat} {P : Nat → Nat} {SN : Nat → Nat} (t : mdl h n W P SN) {z : Int} (h1 : -1000000 ≤ z) (h2 : z ≤ 1000000) {top : Nat} (ht : top < 1000) : F_X11_cut (d + 1) (zL z) 0 (nI top) h = some (.int (nI (clN z top)), h) := by
  have e0 : (0 : Int32).toInt64 = zL 0 := by decide +kernel
  have e1 : (nI top).toInt64 = zL top := by rw [nI_zI, zI_L (by omega) (by omega)]
  rw [S_X11_cut L d, e0, e1]
  unfold clN
  by_cases c : z < 0
  · rw [if_pos ((lg_cmp_lt _ _).mpr ((zL_lt (by omega) (by omega)).mpr c)), show min z.toNat top = 0 by omega]
    rfl
  · rw [if_neg (fun q => c ((zL_lt (by omega) (by omega)).mp ((lg_cmp_lt _ _).mp q)))]
    by_cases c2 : z ≤ top
    · rw [if_pos ((lg_cmp_le _ _).mpr ((zL_le (by omega) (by omega)).mpr c2)), zL_I (by omega) (by omega)]
      obtain ⟨k, rfl⟩ : ∃ k : Nat, z = (k : Int) := ⟨z.toNat, by omega⟩
      rw [← nI_zI]
      congr 4
      omega
    · rw [if_neg (fun q => c2 ((zL_le (by omega) (by omega)).mp ((lg_cmp_le _ _).mp q)))]
      congr 4
      omega
noncomputable def sayN (o : Option Den) (wo top : Nat) (nm : Nat → Int) (ld : Int → Int) : Nat := match o with
  | none => wo
  | some v => clN (v nm ld) top
theorem m_says {h : MH} (L : lay h) (d : Nat) {n : Nat} {W : Nat → Nat} {P : Nat → Nat} {SN : Nat → Nat} (t : mdl h n W P SN) {N tx cnt srt wo top : Nat} {o : Option Den} (htx : tx < 4) (hc : cnt ≤ 24) (ec : gI h 70 (681 * tx) = nI cnt) (w : lwMO h N tx cnt srt o) (htop : top < 1000) {nm : Nat → Int} (env : envL nm (ldZ n W P SN) N (gI h 73) (ldL n W P SN)) : ∃ h', F_X11_says (d + 7) (nI tx) (nI srt) (nI wo) (nI top) h = some (.int (nI (sayN o wo top nm (ldZ n W P SN))), h') ∧ sm [75] h h' := by
  rw [S_X11_says L (d + 6)]
  have e0 : 681 * nI tx = nI (681 * tx) := nIm 681 tx
  have step : ∀ k, k < cnt → G_X11_says_2 (d + 6) (nI tx) (nI srt) (nI wo) (nI top) (nI k) h = if gI h 70 (681 * tx + 3 * k + 1) = nI srt then cL (F_X11_summedUp (d + 6) (nI tx) (nI k) h) (fun x2 h1 => cI (F_X11_cut (d + 6) x2 0 (nI top) h1) (fun x4 h3 => some (.int x4, h3))) else G_X11_says_2 (d + 6) (nI tx) (nI srt) (nI wo) (nI top) (nI (k + 1)) h := by
    intro k hk
    have e1 : nI (681 * tx) + 1 + 3 * nI k = nI (681 * tx + 3 * k + 1) := by
      rw [nIm, show nI (681 * tx) + 1 = nI (681 * tx + 1) from nI_add _ 1, nI_add]; congr 1; omega
    rw [S_X11_says_2 L (d + 6), e0, e1, if_neg (nIz (by omega)), ck_pos (ib_nI (by omega) (by omega)), ix_nI (n := 681 * tx) (by omega), ec, if_pos (nI_lt hk (by omega)), ck_pos (ib_nI (by omega) (by omega)), ix_nI (by omega), nI_1]
  match o, w with
  | none, w =>
    refine ⟨h, ?_, sm_refl _ _⟩
    refine (loop_all (n := cnt) (F := fun k => G_X11_says_2 (d + 6) (nI tx) (nI srt) (nI wo) (nI top) (nI k) h) (fun k hk => ?_)).trans ?_
    · show G_X11_says_2 _ _ _ _ _ _ _ = _
      rw [step k hk, if_neg (w k hk)]
    · show G_X11_says_2 _ _ _ _ _ _ _ = _
      rw [S_X11_says_2 L (d + 6), e0, if_neg (nIz (by omega)), ck_pos (ib_nI (by omega) (by omega)), ix_nI (n := 681 * tx) (by omega), ec, if_neg (nI_nlt (Nat.le_refl _) (by omega))]
      rfl
  | some v, w =>
    obtain ⟨k, hk, e1, e2, w2, ho⟩ := w
    have bd := ho nm _ env.1
    obtain ⟨vals, tru, es⟩ := m_summedUp L d t htx (by omega) w2 env
    refine ⟨mvh h vals tru, ?_, sm_trans (sm_rI (Z := [75]) (a := 75) (f := tru) (Or.inl ⟨List.mem_singleton.mpr rfl, by omega⟩)) sm_rL⟩
    refine (loop_all (n := k) (F := fun k => G_X11_says_2 (d + 6) (nI tx) (nI srt) (nI wo) (nI top) (nI k) h) (fun j hj => ?_)).trans ?_
    · show G_X11_says_2 _ _ _ _ _ _ _ = _
      rw [step j (by omega), if_neg (e2 j hj)]
    · show G_X11_says_2 _ _ _ _ _ _ _ = _
      rw [step k hk, if_pos e1, es, cL_some, m_cut (lay_mvh L vals tru) (d + 5) (mdl_mvh t vals tru) bd.1 bd.2 htop, cI_some]
      rfl
theorem m_name {h : MH} (L : lay h) (d : Nat) {n : Nat} {W : Nat → Nat} {P : Nat → Nat} {SN : Nat → Nat} (t : mdl h n W P SN) {H : Nat} (eH : gI h 68 6 = nI H) : ∃ f, F_X11_name (d + 4) h = some (.int 0, rI h 73 f) ∧ (∀ k, k < 4 → f k = zI (nmZ n W P SN H none k)) := by
  have h4 : 2 ^ n ≤ 2 ^ 4 := Nat.pow_le_pow_right (by decide) t.1
  have L' : ∀ f, lay (rI h 73 f) := fun f => lay_rI L (by decide)
  have t' : ∀ f, mdl (rI h 73 f) n W P SN := fun f => by
    unfold mdl
    rw [gI_rI' _ _ _ _ (by decide)]
    exact t
  rw [S_X11_name L (d + 3), lt_def, sI_def h, m_tipNow (L' _) d (t' _), cI_some, lt_def, sI_rI, m_everyone (L' _) (d + 2) (t' _), cI_some, m_weightOf (L' _) (d + 1) (t' _) (by omega), cI_some, m_allSnow (L' _) (d + 2) (t' _), cI_some, lt_def, sI_rI, m_allSnow (L' _) (d + 2) (t' _), cI_some, lt_def, sI_rI, eH]
  refine ⟨_, rfl, fun k hk => ?_⟩
  match k, hk with
  | 0, _ => exact nI_zI H
  | 1, _ => rfl
  | 2, _ =>
    show nI _ + nI _ = _
    rw [nI_add, nI_zI]
    show zI _ = zI ((sumN W n + sumN SN 9 : Nat) : Int)
    congr 3
    refine sumN_congr fun i hi => ?_
    rw [bit_pow (by have := t.1; omega)]
    simp [hi]
  | 3, _ => exact nI_zI _
theorem m_tipsNow {h : MH} (L : lay h) (d : Nat) {n : Nat} {W : Nat → Nat} {P : Nat → Nat} {SN : Nat → Nat} (t : mdl h n W P SN) {H : Nat} (eH : gI h 68 6 = nI H) (hH : H ≤ 9999) {dt : Option Den} {ds : Option Den} (rl : rlM h (gI h 68 3) dt ds) : ∃ h', F_X11_tipsNow (d + 8) h = some (.int (nI (tpsN dt (nmZ n W P SN H none) (ldZ n W P SN))), h') ∧ sm [73, 75] h h' := by
  obtain ⟨f, e, hf⟩ := m_name L (d + 3) t eH
  have L' : lay (rI h 73 f) := lay_rI L (by decide)
  have t' : mdl (rI h 73 f) n W P SN := by
    unfold mdl
    rw [gI_rI' _ _ _ _ (by decide)]
    exact t
  have s1 : sm [73, 75] h (rI h 73 f) := sm_rI (Or.inl ⟨by decide, by decide⟩)
  rw [S_X11_tipsNow L (d + 7), e, cV_some, gI_rI' _ _ _ _ (by decide)]
  rcases rl with ⟨ex, rfl, rfl⟩ | ⟨tx, htx, ex, cnt, hc, ec, w0, w1⟩
  · refine ⟨_, ?_, s1⟩
    rw [ex, S_X11_says L' (d + 6), S_X11_says_2 L' (d + 6), if_pos (by decide), cI_some]
    rfl
  · have env : envL (nmZ n W P SN H none) (ldZ n W P SN) 4 (gI (rI h 73 f) 73) (ldL n W P SN) := by
      refine ⟨env_ok (mdl_tbd t) hH (fun _ q => by cases q), fun k hk => ?_, ldL_z (mdl_tbd t)⟩
      rw [gI_rIs]
      exact hf k hk
    obtain ⟨h2, e2, s2⟩ := m_says L' d t' (N := 4) (tx := tx) (cnt := cnt) (srt := 0) (wo := 9) (top := 99) (o := dt) htx hc (by rw [gI_rI' _ _ _ _ (by decide)]; exact ec) (lwMO_eq (gI_rI' _ _ _ _ (by decide)) w0) (by omega) env
    refine ⟨h2, ?_, sm_trans s1 (sm_mono s2 (by decide))⟩
    rw [ex]
    refine (congrArg (fun o => cI o fun x3 h2 => some (Value.int x3, h2)) e2).trans ?_
    rw [cI_some]
    congr 4
theorem m_slidesOf {h : MH} (L : lay h) (d : Nat) {n : Nat} {W : Nat → Nat} {P : Nat → Nat} {SN : Nat → Nat} (t : mdl h n W P SN) {H : Nat} (eH : gI h 68 6 = nI H) (hH : H ≤ 9999) {dt : Option Den} {ds : Option Den} {x : Int32} (rl : rlM h x dt ds) {j : Nat} (hj : j < n) : ∃ h', F_X11_slidesOf (d + 8) x (nI j) h = some (.int (nI (sldN ds (nmZ n W P SN H (some j)) (ldZ n W P SN))), h') ∧ sm [73, 75] h h' := by
  obtain ⟨f, e, hf⟩ := m_name L (d + 3) t eH
  have hn := t.1
  have L' : ∀ f, lay (rI h 73 f) := fun f => lay_rI L (by decide)
  have t' : ∀ f, mdl (rI h 73 f) n W P SN := fun f => by
    unfold mdl
    rw [gI_rI' _ _ _ _ (by decide)]
    exact t
  have g68 : ∀ f, gI (rI h 73 f) 68 = gI h 68 := fun f => gI_rI' _ _ _ _ (by decide)
  rw [S_X11_slidesOf L (d + 7), e, cV_some]
  simp (disch := omega) only [lt_def, sI_rI, nIa, ib_nIi, ix_nI, ck_pos, g68, (t.2.2.1 j hj).1, (t.2.2.2.1 j hj).1]
  have s1 : ∀ f, sm [73, 75] h (rI h 73 f) := fun f => sm_rI (Or.inl ⟨by decide, by decide⟩)
  rcases rl with ⟨ex, rfl, rfl⟩ | ⟨tx, htx, ex, cnt, hc, ec, w0, w1⟩
  · refine ⟨rI h 73 (va_up (va_up (va_up f 4 (nI j)) 5 (nI (W j))) 6 (nI (P j))), ?_, s1 _⟩
    rw [ex, S_X11_says (L' _) (d + 6), S_X11_says_2 (L' _) (d + 6), if_pos (by decide), cI_some]
    rfl
  · have env : envL (nmZ n W P SN H (some j)) (ldZ n W P SN) 7 (gI (rI h 73 (va_up (va_up (va_up f 4 (nI j)) 5 (nI (W j))) 6 (nI (P j)))) 73) (ldL n W P SN) := by
      refine ⟨env_ok (mdl_tbd t) hH (fun _ q => by cases q; exact hj), fun k hk => ?_, ldL_z (mdl_tbd t)⟩
      rw [gI_rIs]
      match k, hk with
      | 0, _ => exact hf 0 (by omega)
      | 1, _ => exact hf 1 (by omega)
      | 2, _ => exact hf 2 (by omega)
      | 3, _ => exact hf 3 (by omega)
      | 4, _ => exact nI_zI j
      | 5, _ => exact nI_zI _
      | 6, _ => exact nI_zI _
    obtain ⟨h2, e2, s2⟩ := m_says (L' _) d (t' _) (N := 7) (tx := tx) (cnt := cnt) (srt := 1) (wo := 1) (top := 3) (o := ds) htx hc (by rw [gI_rI' _ _ _ _ (by decide)]; exact ec) (lwMO_eq (gI_rI' _ _ _ _ (by decide)) w1) (by omega) env
    refine ⟨h2, ?_, sm_trans (s1 _) (sm_mono s2 (by decide))⟩
    rw [ex]
    refine (congrArg (fun o => cI o fun x3 h2 => some (Value.int x3, h2)) e2).trans ?_
    rw [cI_some]
    congr 4
theorem m_isFar {h : MH} (L : lay h) (d : Nat) {n : Nat} {W : Nat → Nat} {P : Nat → Nat} {SN : Nat → Nat} (t : mdl h n W P SN) {H : Nat} (eH : gI h 68 6 = nI H) (hH : H ≤ 9999) {dt : Option Den} {ds : Option Den} (rl : rlM h (gI h 68 3) dt ds) : ∃ h', F_X11_isFar (d + 9) h = some (.int (bI (¬ still n W P SN H dt)), h') ∧ sm [73, 75] h h' := by
  obtain ⟨h', e, s⟩ := m_tipsNow L d t eH hH rl
  have tb := mdl_b t
  have tl := tpsN_le dt (nmZ n W P SN H none) (ldZ n W P SN)
  refine ⟨h', ?_, s⟩
  rw [S_X11_isFar L (d + 8), m_tipNow L (d + 5) t, cI_some, m_size L (d + 7) (by omega), cI_some, e, cI_some, ← nI_zI]
  by_cases c : still n W P SN H dt
  · rw [bI_neg (fun q => q c), if_pos (nI_le c (by omega))]
  · rw [bI_pos c, if_neg (fun w => c ((nI_leI (by omega) (by omega)).mp w))]
end
end LW
