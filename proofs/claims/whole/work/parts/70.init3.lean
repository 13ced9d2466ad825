--deps:19.lay 21.facts 22.00.names 22.01.eq 22.02.eq 22.03.eq 22.04.eq 22.05.eq 22.06.eq 22.07.eq 22.08.eq 22.09.eq 22.10.eq 22.11.eq 22.12.eq 22.13.eq 22.14.eq 22.15.eq 22.16.eq 22.17.eq 22.18.eq 22.19.eq 22.20.eq 22.21.eq 22.22.eq 22.23.eq 23.num 24.town 25.evc 26.evm 27.law 28.says 29.inv 30.api1 31.copy 66.script 68.inits 69.init2
/-! THE CONSTRUCTOR of the class -/
set_option linter.unusedSectionVars false
theorem cn_o3 (a m : Nat) : cnA (oi3 a m) = 16 := by
  simp only [oi3, cnA_app, cnA, cn_o0, cn_o1, cn_o2, Nat.reduceAdd, Nat.add_zero, Nat.zero_add]
theorem cn_o4 (a m : Nat) : cnA (oi4 a m) = 4 := rfl
theorem cn_o5 (a m a1 : Nat) : cnA (oi5 a m a1) = 4 := rfl
theorem cn_o6 (a m : Nat) : cnA (oi6 a m) = 2 := rfl
theorem cn_o7 (a m : Nat) : cnA (oi7 a m) = 3 := rfl
theorem i8 (d : Nat) {h : MH} {a0 m : Nat} (em : mN h = m) (n0 : ¬ a0 = 0) (lt : a0 < m) (k : kd h a0 = 11) : mE mtab (d + 3) 8 [.ref a0] h = some (.int 0, opsH h (oi8 a0 m)) := by
  have ka : ∀ l, kd (opsH h l) a0 = 11 := fun l => (kd_ops l h (by omega)).trans k
  have ml : ∀ l, mN (opsH h l) = m + cnA l := fun l => by rw [mN_ops, em]
  have kn : ∀ l kk n, kd (opsH h (l ++ [(0, kk, n, 0)])) (m + cnA l) = kk := fun l kk n => by
    rw [← opsH_app]
    show kd (mA (opsH h l) kk n) _ = kk
    rw [kd_mA, if_pos (ml l).symm]
  have lt1 : ∀ l kk n, m + cnA l < m + cnA (l ++ [(0, kk, n, 0)]) := fun l kk n => by rw [cnA_app]; show _ < m + (cnA l + 1); omega
  have gr : ∀ l v, gR (opsH h (l ++ [(1, a0, 3, v)] ++ [(0, 5, 13, 0)])) a0 3 = v := fun l v => by
    rw [← opsH_app]
    show gR (mA (opsH h (l ++ [(1, a0, 3, v)])) 5 13) a0 3 = v
    rw [gR_mA, if_neg (by rw [ml]; omega), ← opsH_app]
    show gR (sR (opsH h l) a0 3 v) a0 3 = v
    rw [gR_sR, if_pos rfl, va_up_self]
  have c3 : ∀ l, mE mtab (d + 2) 3 [.ref (m + cnA l)] (opsH h (l ++ [(0, 1, 9, 0)])) = some (.int 0, opsH h (l ++ [(0, 1, 9, 0)] ++ oi3 (m + cnA l) (m + cnA (l ++ [(0, 1, 9, 0)])))) := fun l => by
    rw [i3 d (m := m + cnA (l ++ [(0, 1, 9, 0)])) (ml _) (by omega) (lt1 l 1 9) (kn l 1 9), opsH_app]
  have c0 : ∀ l, mE mtab (d + 2) 0 [.ref (m + cnA l)] (opsH h (l ++ [(0, 10, 11, 0)])) = some (.int 0, opsH h (l ++ [(0, 10, 11, 0)] ++ oi0 (m + cnA l) (m + cnA (l ++ [(0, 10, 11, 0)])))) := fun l => by
    rw [i0 (d + 1) (m := m + cnA (l ++ [(0, 10, 11, 0)])) (ml _) (by omega) (lt1 l 10 11) (kn l 10 11), opsH_app]
  have c4 : ∀ l, mE mtab (d + 2) 4 [.ref (m + cnA l)] (opsH h (l ++ [(0, 8, 6, 0)])) = some (.int 0, opsH h (l ++ [(0, 8, 6, 0)] ++ oi4 (m + cnA l) (m + cnA (l ++ [(0, 8, 6, 0)])))) := fun l => by
    rw [i4 (d + 1) (m := m + cnA (l ++ [(0, 8, 6, 0)])) (ml _) (by omega) (lt1 l 8 6) (kn l 8 6), opsH_app]
  have c5 : ∀ l a1, mE mtab (d + 2) 5 [.ref (m + cnA l), .ref a1] (opsH h (l ++ [(0, 5, 13, 0)])) = some (.int 0, opsH h (l ++ [(0, 5, 13, 0)] ++ oi5 (m + cnA l) (m + cnA (l ++ [(0, 5, 13, 0)])) a1)) := fun l a1 => by
    rw [i5 (d + 1) (m := m + cnA (l ++ [(0, 5, 13, 0)])) (ml _) (by omega) (lt1 l 5 13) (kn l 5 13), opsH_app]
  have c6 : ∀ l, mE mtab (d + 2) 6 [.ref (m + cnA l)] (opsH h (l ++ [(0, 6, 4, 0)])) = some (.int 0, opsH h (l ++ [(0, 6, 4, 0)] ++ oi6 (m + cnA l) (m + cnA (l ++ [(0, 6, 4, 0)])))) := fun l => by
    rw [i6 (d + 1) (m := m + cnA (l ++ [(0, 6, 4, 0)])) (ml _) (by omega) (lt1 l 6 4) (kn l 6 4), opsH_app]
  have c7 : ∀ l, mE mtab (d + 2) 7 [.ref (m + cnA l)] (opsH h (l ++ [(0, 2, 5, 0)])) = some (.int 0, opsH h (l ++ [(0, 2, 5, 0)] ++ oi7 (m + cnA l) (m + cnA (l ++ [(0, 2, 5, 0)])))) := fun l => by
    rw [i7 (d + 1) (m := m + cnA (l ++ [(0, 2, 5, 0)])) (ml _) (by omega) (lt1 l 2 5) (kn l 2 5), opsH_app]
  have st : mE mtab (d + 3) 8 [.ref a0] (opsH h []) = some (.int 0, opsH h (oi8 a0 m)) := by
    rw [D_X10_init, ck_pos n0]
    simp only [lt_def, A_ops, R_ops, ml, kn, ka, gr, c0, c3, c4, c5, c6, c7, cV_some, ck_true]
    refine congrArg (fun l => some (Value.int 0, opsH h l)) ?_
    simp only [oi8, cnA_app, cnA, cn_o0, cn_o3, cn_o4, cn_o5, cn_o6, cn_o7, List.nil_append, List.append_assoc, List.cons_append, Nat.reduceAdd, Nat.add_zero, Nat.zero_add]
  exact st
