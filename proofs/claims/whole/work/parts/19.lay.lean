/-! THE FIXED CELLS (written by wip/gen/lay19.py): Beam 8, now 9 (town 10, steps 17, hands 19, texts 23, said 24 25), kept 26 (27, 34, 36, 40, 41 42), trial 43, tape 50, reader 55, search 60, crowd 63, model 67; texts from 84 on -/
def cN : Nat := 84
def cKD (a : Nat) : Nat := match a with
  | 1 => 24
  | 2 => 24
  | 3 => 24
  | 4 => 25
  | 5 => 25
  | 6 => 26
  | 7 => 26
  | 8 => 11
  | 9 => 1
  | 10 => 10
  | 11 => 20
  | 12 => 20
  | 13 => 20
  | 14 => 20
  | 15 => 20
  | 16 => 20
  | 17 => 7
  | 18 => 20
  | 19 => 3
  | 20 => 20
  | 21 => 20
  | 22 => 20
  | 23 => 23
  | 24 => 20
  | 25 => 20
  | 26 => 1
  | 27 => 10
  | 28 => 20
  | 29 => 20
  | 30 => 20
  | 31 => 20
  | 32 => 20
  | 33 => 20
  | 34 => 7
  | 35 => 20
  | 36 => 3
  | 37 => 20
  | 38 => 20
  | 39 => 20
  | 40 => 23
  | 41 => 20
  | 42 => 20
  | 43 => 10
  | 44 => 20
  | 45 => 20
  | 46 => 20
  | 47 => 20
  | 48 => 20
  | 49 => 20
  | 50 => 8
  | 51 => 20
  | 52 => 20
  | 53 => 20
  | 54 => 20
  | 55 => 5
  | 56 => 20
  | 57 => 20
  | 58 => 20
  | 59 => 20
  | 60 => 6
  | 61 => 20
  | 62 => 20
  | 63 => 2
  | 64 => 20
  | 65 => 21
  | 66 => 22
  | 67 => 12
  | 68 => 20
  | 69 => 20
  | 70 => 20
  | 71 => 20
  | 72 => 20
  | 73 => 20
  | 74 => 21
  | 75 => 22
  | 76 => 20
  | 77 => 20
  | 78 => 20
  | 79 => 22
  | 80 => 20
  | 81 => 20
  | 82 => 22
  | 83 => 21
  | _ => 0
/-- lengths (of the script: not said here) -/
def cLN (a : Nat) : Nat := match a with
  | 2 => 5
  | 3 => 5
  | 6 => 118
  | 7 => 11
  | 8 => 7
  | 9 => 9
  | 10 => 11
  | 11 => 4
  | 12 => 4
  | 13 => 4
  | 14 => 9
  | 15 => 30
  | 16 => 7
  | 17 => 3
  | 18 => 1457
  | 19 => 4
  | 20 => 4
  | 21 => 4
  | 22 => 4
  | 23 => 4
  | 24 => 8
  | 25 => 8
  | 26 => 9
  | 27 => 11
  | 28 => 4
  | 29 => 4
  | 30 => 4
  | 31 => 9
  | 32 => 30
  | 33 => 7
  | 34 => 3
  | 35 => 1457
  | 36 => 4
  | 37 => 4
  | 38 => 4
  | 39 => 4
  | 40 => 4
  | 41 => 8
  | 42 => 8
  | 43 => 11
  | 44 => 4
  | 45 => 4
  | 46 => 4
  | 47 => 9
  | 48 => 30
  | 49 => 7
  | 50 => 6
  | 51 => 300
  | 52 => 301
  | 53 => 301
  | 54 => 301
  | 55 => 13
  | 56 => 24
  | 57 => 24
  | 58 => 24
  | 59 => 300
  | 60 => 4
  | 61 => 6561
  | 62 => 6561
  | 63 => 5
  | 64 => 16
  | 65 => 16
  | 66 => 16
  | 67 => 33
  | 68 => 1498
  | 69 => 1498
  | 70 => 2724
  | 71 => 300
  | 72 => 160
  | 73 => 7
  | 74 => 330
  | 75 => 330
  | 76 => 22
  | 77 => 6561
  | 78 => 6561
  | 79 => 6561
  | 80 => 4
  | 81 => 4
  | 82 => 16
  | 83 => 16
  | _ => 0
/-- the final references: cell, slot, cell -/
def cRF : List (Nat × Nat × Nat) := [(8, 0, 9), (8, 1, 26), (8, 2, 43), (8, 3, 50), (8, 4, 55), (8, 5, 60), (8, 6, 63), (9, 0, 10), (9, 1, 17), (9, 2, 19), (9, 3, 23), (9, 6, 24), (9, 7, 25), (10, 1, 11), (10, 2, 12), (10, 3, 13), (10, 4, 14), (10, 7, 15), (10, 10, 16), (17, 0, 18), (19, 0, 20), (19, 1, 21), (19, 2, 22), (26, 0, 27), (26, 1, 34), (26, 2, 36), (26, 3, 40), (26, 6, 41), (26, 7, 42), (27, 1, 28), (27, 2, 29), (27, 3, 30), (27, 4, 31), (27, 7, 32), (27, 10, 33), (34, 0, 35), (36, 0, 37), (36, 1, 38), (36, 2, 39), (43, 1, 44), (43, 2, 45), (43, 3, 46), (43, 4, 47), (43, 7, 48), (43, 10, 49), (50, 0, 51), (50, 2, 52), (50, 3, 53), (50, 4, 54), (55, 0, 50), (55, 1, 56), (55, 2, 57), (55, 3, 58), (55, 4, 59), (60, 0, 61), (60, 1, 62), (63, 0, 64), (63, 1, 65), (63, 2, 66), (67, 0, 68), (67, 1, 69), (67, 2, 70), (67, 3, 71), (67, 15, 72), (67, 20, 73), (67, 21, 74), (67, 22, 75), (67, 25, 76), (67, 26, 77), (67, 27, 78), (67, 28, 79), (67, 29, 80), (67, 30, 81), (67, 31, 82), (67, 32, 83), (4, 0, 6), (5, 0, 7)]
def cfin (a k : Nat) : Bool := cRF.any fun q => Nat.beq q.1 a && Nat.beq q.2.1 k
def lay (h : MH) : Prop := 84 ≤ mN h ∧ (∀ a, a < 84 → kd h a = cKD a) ∧ (∀ a, 1 < a → a < 84 → ln h a = cLN a) ∧ (∀ q ∈ cRF, gR h q.1 q.2.1 = q.2.2) ∧ (gI h 2 = mpw ∧ gI h 3 = mfc ∧ gI h 6 = (fun j => mbW.getD j 0) ∧ gI h 7 = (fun j => mbS.getD j 0) ∧ gI h 4 1 = 0 ∧ gI h 5 1 = 0)
/-- a reference slot of a class that may be written: it is final in no fixed cell -/
def cmut (a b : Nat) : Bool := cRF.all fun q => !(Nat.beq (cKD q.1) (a + 1) && Nat.beq q.2.1 b)
def cbad : List Nat := [0, 1, 2, 3, 4, 5, 6, 7, 8, 10]
def cokm (y : Nat) : Bool := !(cbad.any fun b => Nat.beq b y)
/-- an instruction that keeps the fixed cells -/
def clay (i : MI) : Bool := match i with
  | (_, ins, _, _, _, a, b, c, d, _) => match ins with
    | .putfield _ => match c with
      | 2 => cmut a b
      | _ => Nat.blt a 12
    | .invokestatic _ => match d with
      | 0 => cokm a
      | _ => true
    | .invokevirtual _ => match d with
      | 3 => true
      | _ => cokm a
    | .invokespecial _ => match d with
      | 2 => true
      | _ => cokm a
    | _ => true
theorem lay_nx {P : MH → Prop} {k : Nat} {ls : ML} {st : List Value} {h1 : MH} {z : (Nat × ML × List Value × MH) ⊕ (Value × MH)} (hp : P h1) (e : nx k ls st h1 = some z) : match z with
    | .inl q => P q.2.2.2
    | .inr r => P r.2 := by
  unfold nx at e
  cases e
  exact hp
def zh (z : (Nat × ML × List Value × MH) ⊕ (Value × MH)) : MH := match z with
  | .inl q => q.2.2.2
  | .inr r => r.2
theorem zh_nx {k : Nat} {ls : ML} {st : List Value} {h1 : MH} {z : (Nat × ML × List Value × MH) ⊕ (Value × MH)} (e : nx k ls st h1 = some z) : zh z = h1 := by
  unfold nx at e
  cases e
  rfl
theorem lay_kd {h : MH} (L : lay h) {a : Nat} (ha : a < 84) : kd h a = cKD a := L.2.1 a ha
theorem lay_obj {h : MH} (L : lay h) {a b : Nat} (h8 : b < 8) : cKD b = 0 ∨ 24 ≤ cKD b := by
  match b, h8 with
  | 0, _ => exact Or.inl rfl
  | 1, _ => exact Or.inr (by decide)
  | 2, _ => exact Or.inr (by decide)
  | 3, _ => exact Or.inr (by decide)
  | 4, _ => exact Or.inr (by decide)
  | 5, _ => exact Or.inr (by decide)
  | 6, _ => exact Or.inr (by decide)
  | 7, _ => exact Or.inr (by decide)
/-- a row of ints of a cell that is none of the given ones -/
theorem lay_rI {h : MH} (L : lay h) {r : Nat} {f : Nat → Int32} (hr : ¬ r = 2 ∧ ¬ r = 3 ∧ ¬ r = 4 ∧ ¬ r = 5 ∧ ¬ r = 6 ∧ ¬ r = 7) : lay (rI h r f) := by
  obtain ⟨l1, l2, l3, l4, l5, l6, l7, l8, l9, l10⟩ := L
  refine ⟨l1, l2, l3, l4, ?_⟩
  rw [gI_rI, gI_rI, gI_rI, gI_rI, gI_rI, gI_rI, if_neg (by omega), if_neg (by omega), if_neg (by omega), if_neg (by omega), if_neg (by omega), if_neg (by omega)]
  exact ⟨l5, l6, l7, l8, l9, l10⟩
theorem lay_ne {h : MH} (L : lay h) {r : Nat} (hk : kd h r < 24) : ¬ r = 2 ∧ ¬ r = 3 ∧ ¬ r = 4 ∧ ¬ r = 5 ∧ ¬ r = 6 ∧ ¬ r = 7 := by
  refine ⟨?_, ?_, ?_, ?_, ?_, ?_⟩ <;> (rintro rfl; rw [L.2.1 _ (by decide)] at hk; exact absurd hk (by decide))
theorem lay_rR {h : MH} (L : lay h) {r : Nat} {f : Nat → Nat} (hr : ∀ q ∈ cRF, q.1 = r → f q.2.1 = q.2.2) : lay (rR h r f) := by
  obtain ⟨l1, l2, l3, l4, l5⟩ := L
  refine ⟨l1, l2, l3, fun q hq => ?_, l5⟩
  rw [gR_rR]
  by_cases e : q.1 = r
  · rw [if_pos e]; exact hr q hq e
  · rw [if_neg e]; exact l4 q hq
theorem cRF_lt : ∀ q ∈ cRF, q.1 < 84 ∧ 1 < q.1 ∧ ¬ cKD q.1 = 23 := by decide +kernel
theorem lay_mA {h : MH} (L : lay h) {kn n : Nat} : lay (mA h kn n) := by
  obtain ⟨l1, l2, l3, l4, l5⟩ := L
  have hN : 8 ≤ mN h := by omega
  refine ⟨by rw [mN_mA]; omega, fun a ha => ?_, fun a h1 ha => ?_, fun q hq => ?_, ?_⟩
  · rw [kd_mA, if_neg (by omega)]; exact l2 a ha
  · rw [ln_mA, if_neg (by omega)]; exact l3 a h1 ha
  · rw [gR_mA, if_neg (by have := (cRF_lt q hq).1; omega)]; exact l4 q hq
  · rw [gI_mA, gI_mA, gI_mA, gI_mA, gI_mA, gI_mA, if_neg (by omega), if_neg (by omega), if_neg (by omega), if_neg (by omega), if_neg (by omega), if_neg (by omega)]
    exact l5
def mEl (ev : ME) : Prop := ∀ (y : Nat) (as : List Value) (h : MH) (v : Value) (h' : MH), cokm y = true → ev y as h = some (v, h') → lay h → lay h'
theorem ly_cl {o : Option (Value × MH)} {rk k : Nat} {ls : ML} {st : List Value} {z : (Nat × ML × List Value × MH) ⊕ (Value × MH)} (ho : ∀ v h', o = some (v, h') → lay h') (e : mcl o rk k ls st = some z) : lay (zh z) := by
  unfold mcl at e
  split at e <;> split at e <;> first | (cases e; done) | (rw [zh_nx e]; exact ho _ _ rfl)
theorem ly_call {h : MH} {i : MI} {k : Nat} {ls : ML} {st : List Value} {ev : ME} {z : (Nat × ML × List Value × MH) ⊕ (Value × MH)} (he : mEl ev) (hc : cokm i.2.2.2.2.2.1 = true) (L : lay h) (e : mcall i k ls st h ev = some z) : lay (zh z) := by
  obtain ⟨pc, ins, x, y, sw, a, b, c, d, e0⟩ := i
  unfold mcall at e
  dsimp only at e hc
  split at e
  · exact ly_cl (fun v h' q => he _ _ _ _ _ hc q L) e
  · cases e
theorem ly_callv {h : MH} {i : MI} {k : Nat} {ls : ML} {st : List Value} {ev : ME} {z : (Nat × ML × List Value × MH) ⊕ (Value × MH)} (he : mEl ev) (hc : cokm i.2.2.2.2.2.1 = true) (L : lay h) (e : mcallv i k ls st h ev = some z) : lay (zh z) := by
  obtain ⟨pc, ins, x, y, sw, a, b, c, d, e0⟩ := i
  unfold mcallv at e
  dsimp only at e hc
  split at e
  · exact ly_call he hc L (mck_some e).2
  · cases e
set_option maxHeartbeats 4000000 in
theorem mst_lay {i : MI} {k : Nat} {ls : ML} {st : List Value} {h : MH} {ev : ME} {z : (Nat × ML × List Value × MH) ⊕ (Value × MH)} (he : mEl ev) (hi : clay i = true) (L : lay h) (hs : mst i k ls st h ev = some z) : lay (zh z) := by
  obtain ⟨pc, ins, x, y, sw, a, b, c, d, e⟩ := i
  cases ins
  case putfield n =>
    simp only [clay] at hi
    simp only [mst] at hs
    have h24 : ∀ r, a < 12 → kd h r = a + 1 → kd h r < 24 := fun r h1 h2 => by omega
    split at hs
    · split at hs
      · obtain ⟨hc, hs⟩ := mck_some hs
        rw [zh_nx hs]
        exact lay_rI L (lay_ne L (h24 _ (by simpa [Nat.blt_eq] using hi) hc))
      · cases hs
    · split at hs
      · obtain ⟨hc, hs⟩ := mck_some hs
        rw [zh_nx hs]
        exact L
      · cases hs
    · split at hs
      · rename_i v r st2
        obtain ⟨hc, hs⟩ := mck_some hs
        rw [zh_nx hs]
        refine lay_rR L fun q hq e1 => ?_
        unfold cmut at hi
        have h2 := List.all_eq_true.mp hi q hq
        have hk := (L.2.1 q.1 (cRF_lt q hq).1).symm
        have hne : ¬ q.2.1 = b := by
          intro e2
          rw [e1, hc] at hk
          simp [hk, e1, e2] at h2
        rw [va_up_ne _ _ hne, ← e1]
        exact L.2.2.2.1 q hq
      · cases hs
    · split at hs
      · rename_i v r st2
        obtain ⟨hc, hs⟩ := mck_some hs
        rw [zh_nx hs]
        refine lay_rI L (lay_ne L (h24 _ ?_ hc.1))
        split at hi
        · rename_i h2 _ _; exact absurd rfl (by assumption)
        · simpa [Nat.blt_eq] using hi
      · cases hs
  case aastore =>
    simp only [mst] at hs
    split at hs
    · obtain ⟨hc, hs⟩ := mck_some hs
      rw [zh_nx hs]
      refine lay_rR L fun q hq e1 => ?_
      have h1 := cRF_lt q hq
      have hk := L.2.1 q.1 h1.1
      rw [e1, hc.1] at hk
      rw [e1] at h1
      exact absurd hk.symm h1.2.2
    · cases hs
  case iastore =>
    simp only [mst] at hs
    split at hs
    · obtain ⟨hc, hs⟩ := mck_some hs
      rw [zh_nx hs]
      exact lay_rI L (lay_ne L (by omega))
    · cases hs
  case bastore =>
    simp only [mst] at hs
    split at hs
    · obtain ⟨hc, hs⟩ := mck_some hs
      rw [zh_nx hs]
      exact lay_rI L (lay_ne L (by omega))
    · cases hs
  case lastore =>
    simp only [mst] at hs
    split at hs
    · obtain ⟨hc, hs⟩ := mck_some hs
      rw [zh_nx hs]
      exact L
    · cases hs
  case invokestatic n =>
    simp only [clay] at hi
    simp only [mst] at hs
    split at hs
    · unfold mcopy at hs
      split at hs
      · split at hs
        · obtain ⟨hc, hs⟩ := mck_some hs
          rw [zh_nx hs]
          exact lay_rI L (lay_ne L (by omega))
        · cases hs
      · cases hs
    · exact ly_call he hi L hs
    · unfold mmath at hs
      (repeat' (split at hs)) <;> first | (cases hs; done) | (rw [zh_nx hs]; exact L)
  case invokevirtual n =>
    simp only [clay] at hi
    simp only [mst] at hs
    split at hs
    · unfold mclone at hs
      split at hs
      · split at hs
        · obtain ⟨hc, hs⟩ := mck_some hs
          rw [zh_nx hs]
          have hN := L.1
          exact lay_rI (lay_mA L) (by omega)
        · cases hs
      · cases hs
    · rename_i hd3
      refine ly_callv he ?_ L hs
      split at hi
      · exact absurd rfl hd3
      · exact hi
  case invokespecial n =>
    simp only [clay] at hi
    simp only [mst] at hs
    split at hs
    · (repeat' (split at hs)) <;> first | (cases hs; done) | (rw [zh_nx (mck_some hs).2]; exact L)
    · rename_i hd3
      refine ly_callv he ?_ L hs
      split at hi
      · exact absurd rfl hd3
      · exact hi
  case new n =>
    simp only [mst] at hs
    rw [zh_nx hs]
    exact lay_mA L
  case newarray n =>
    simp only [mst] at hs
    split at hs
    · rw [zh_nx (mck_some hs).2]
      exact lay_mA L
    · cases hs
  case anewarray n =>
    simp only [mst] at hs
    split at hs
    · rw [zh_nx (mck_some hs).2]
      exact lay_mA L
    · cases hs
  all_goals (simp only [mst] at hs <;> (try (cases hs; done)) <;> (repeat' (split at hs)) <;> first
    | (cases hs; done)
    | (rw [zh_nx hs]; exact L)
    | (rw [zh_nx (mck_some hs).2]; exact L)
    | (rw [zh_nx (mst1_some hs).2]; exact L)
    | (rw [zh_nx (mst2_some hs).2]; exact L)
    | (unfold mbr at hs; split at hs <;> (rw [zh_nx hs]; exact L))
    | (cases hs; exact L)
    | (cases (mck_some hs).2; exact L))
theorem mrun_lay {ev : ME} {C : List MI} (he : mEl ev) (hC : ∀ (k : Nat) (i : MI), C[k]? = some i → clay i = true) : ∀ (f k : Nat) (ls : ML) (st : List Value) (h : MH) (v : Value) (h' : MH), mrun ev C f k ls st h = some (v, h') → lay h → lay h' := by
  intro f
  induction f with
  | zero => intro k ls st h v h' e; cases e
  | succ f ih =>
    intro k ls st h v h' e L
    rw [mrun] at e
    cases hi : C[k]? with
    | none => rw [hi] at e; cases e
    | some i =>
      rw [hi] at e
      simp only [Option.bind_some] at e
      cases hm : mst i k ls st h ev with
      | none => rw [hm] at e; cases e
      | some z =>
        rw [hm] at e
        have h1 := mst_lay he (hC k i hi) L hm
        match z, e, h1 with
        | .inr r, e, h1 => cases e; exact h1
        | .inl (k2, ls2, st2, h2), e, h1 => exact ih k2 ls2 st2 h2 v h' e h1
def cmeth (tb : List MT) : Nat → List MT → Bool
  | _, [] => true
  | y, q :: l => (!(cokm y) || q.2.2.2.2.all clay) && cmeth tb (y + 1) l
theorem cmeth_of {tb : List MT} : ∀ (l : List MT) (y : Nat), cmeth tb y l = true → ∀ j q, l[j]? = some q → cokm (y + j) = true → q.2.2.2.2.all clay = true := by
  intro l
  induction l with
  | nil => intro y _ j q h; simp at h
  | cons z l ih =>
    intro y hm j q hj hk
    rw [cmeth, Bool.and_eq_true] at hm
    cases j with
    | zero =>
      cases hj
      rw [Nat.add_zero] at hk
      simpa [hk] using hm.1
    | succ j => exact ih (y + 1) hm.2 j q (by simpa using hj) (by rwa [show y + 1 + j = y + (j + 1) by omega])
set_option maxRecDepth 100000 in
theorem cmeth_all : cmeth mtab 0 mtab = true := by decide +kernel
/-- every call but a constructor's keeps the fixed cells -/
theorem lay_call : ∀ d, mEl (mE mtab d) := by
  intro d
  induction d with
  | zero => intro y as h v h' _ e _; cases e
  | succ d ih =>
    intro y as h v h' hk e L
    rw [mE] at e
    dsimp only at e
    cases hq : mtab[y]? with
    | none => rw [hq] at e; cases e
    | some q =>
      rw [hq] at e
      dsimp only at e
      split at e
      · obtain ⟨f, hf⟩ := mX_iff.mp e
        have hall := cmeth_of mtab 0 cmeth_all y q hq (by rwa [Nat.zero_add])
        exact mrun_lay ih (fun k i hi => List.all_eq_true.mp hall i (List.mem_of_getElem? hi)) f _ _ _ _ _ _ hf L
      · cases e
