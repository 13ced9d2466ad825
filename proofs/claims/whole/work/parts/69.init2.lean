--deps:19.lay 21.facts 22.00.names 22.01.eq 22.02.eq 22.03.eq 22.04.eq 22.05.eq 22.06.eq 22.07.eq 22.08.eq 22.09.eq 22.10.eq 22.11.eq 22.12.eq 22.13.eq 22.14.eq 22.15.eq 22.16.eq 22.17.eq 22.18.eq 22.19.eq 22.20.eq 22.21.eq 22.22.eq 22.23.eq 23.num 24.town 25.evc 26.evm 27.law 28.says 29.inv 30.api1 31.copy 66.script 68.inits
/-! THE CONSTRUCTORS of a borough -/
set_option linter.unusedSectionVars false
theorem A_ops (h : MH) (l : List (Nat × Nat × Nat × Nat)) (k n : Nat) : mA (opsH h l) k n = opsH h (l ++ [(0, k, n, 0)]) := by rw [← opsH_app]; rfl
theorem R_ops (h : MH) (l : List (Nat × Nat × Nat × Nat)) (a k v : Nat) : sR (opsH h l) a k v = opsH h (l ++ [(1, a, k, v)]) := by rw [← opsH_app]; rfl
theorem I_ops0 (h : MH) (l : List (Nat × Nat × Nat × Nat)) (a k : Nat) : sI (opsH h l) a k 0 = opsH h (l ++ [(2, a, k, 0)]) := by rw [← opsH_app]; rfl
theorem I_opsm (h : MH) (l : List (Nat × Nat × Nat × Nat)) (a k : Nat) : sI (opsH h l) a k (-1) = opsH h (l ++ [(3, a, k, 0)]) := by rw [← opsH_app]; rfl
theorem jlit4 : (¬ (4 : Int32) < 0 ∧ 4 ≤ 1000000) = True := eq_true (by decide)
theorem jlit8 : (¬ (8 : Int32) < 0 ∧ 8 ≤ 1000000) = True := eq_true (by decide)
theorem ixl4 : ix (4 : Int32) = 4 := by decide
theorem ixl8 : ix (8 : Int32) = 8 := by decide
theorem cn_o0 (a m : Nat) : cnA (oi0 a m) = 6 := rfl
theorem cn_o1 (a m : Nat) : cnA (oi1 a m) = 1 := rfl
theorem cn_o2 (a m : Nat) : cnA (oi2 a m) = 3 := rfl
theorem i3 (d : Nat) {h : MH} {a0 m : Nat} (em : mN h = m) (n0 : ¬ a0 = 0) (lt : a0 < m) (k : kd h a0 = 1) : mE mtab (d + 2) 3 [.ref a0] h = some (.int 0, opsH h (oi3 a0 m)) := by
  have ka : ∀ l, kd (opsH h l) a0 = 1 := fun l => (kd_ops l h (by omega)).trans k
  have ml : ∀ l, mN (opsH h l) = m + cnA l := fun l => by rw [mN_ops, em]
  have kn : ∀ l kk n, kd (opsH h (l ++ [(0, kk, n, 0)])) (m + cnA l) = kk := fun l kk n => by
    rw [← opsH_app]
    show kd (mA (opsH h l) kk n) _ = kk
    rw [kd_mA, if_pos (ml l).symm]
  have c0 : ∀ l, mE mtab (d + 1) 0 [.ref (m + cnA l)] (opsH h (l ++ [(0, 10, 11, 0)])) = some (.int 0, opsH h (l ++ [(0, 10, 11, 0)] ++ oi0 (m + cnA l) (m + cnA (l ++ [(0, 10, 11, 0)])))) := fun l => by
    rw [i0 d (m := m + cnA (l ++ [(0, 10, 11, 0)])) (ml _) (by omega) (by rw [cnA_app]; show _ < m + (cnA l + 1); omega) (kn l 10 11), opsH_app]
  have c1 : ∀ l, mE mtab (d + 1) 1 [.ref (m + cnA l)] (opsH h (l ++ [(0, 7, 3, 0)])) = some (.int 0, opsH h (l ++ [(0, 7, 3, 0)] ++ oi1 (m + cnA l) (m + cnA (l ++ [(0, 7, 3, 0)])))) := fun l => by
    rw [i1 d (m := m + cnA (l ++ [(0, 7, 3, 0)])) (ml _) (by omega) (by rw [cnA_app]; show _ < m + (cnA l + 1); omega) (kn l 7 3), opsH_app]
  have c2 : ∀ l, mE mtab (d + 1) 2 [.ref (m + cnA l)] (opsH h (l ++ [(0, 3, 4, 0)])) = some (.int 0, opsH h (l ++ [(0, 3, 4, 0)] ++ oi2 (m + cnA l) (m + cnA (l ++ [(0, 3, 4, 0)])))) := fun l => by
    rw [i2 d (m := m + cnA (l ++ [(0, 3, 4, 0)])) (ml _) (by omega) (by rw [cnA_app]; show _ < m + (cnA l + 1); omega) (kn l 3 4), opsH_app]
  have st : mE mtab (d + 2) 3 [.ref a0] (opsH h []) = some (.int 0, opsH h (oi3 a0 m)) := by
    rw [D_X0_init, ck_pos n0]
    simp only [lt_def, A_ops, R_ops, I_ops0, I_opsm, ml, kn, ka, c0, c1, c2, cV_some, ck_true, jlit4, jlit8, ixl4, ixl8]
    refine congrArg (fun l => some (Value.int 0, opsH h l)) ?_
    simp only [oi3, cnA_app, cnA, cn_o0, cn_o1, cn_o2, List.nil_append, List.append_assoc, List.cons_append, Nat.reduceAdd, Nat.add_zero, Nat.zero_add]
  exact st
