/-! TWO PROGRAMS: the constructor of the class as it stands -/
set_option linter.unusedSectionVars false
def okc (y : Nat) : Bool := Nat.ble y 7 && !(Nat.beq y 5)
section CG
variable {ok : Nat → Bool} {ev ev' : ME}
theorem mcall_cg (he : ∀ y, ok y = true → ev y = ev' y) {i : MI} (hy : ok i.2.2.2.2.2.1 = true) (k : Nat) (ls : ML) (st : List Value) (h : MH) : mcall i k ls st h ev = mcall i k ls st h ev' := by
  obtain ⟨pc, ins, x, y, sw, a, b, c, d, e⟩ := i
  unfold mcall
  dsimp only at hy ⊢
  rw [he a hy]
theorem mcallv_cg (he : ∀ y, ok y = true → ev y = ev' y) {i : MI} (hy : ok i.2.2.2.2.2.1 = true) (k : Nat) (ls : ML) (st : List Value) (h : MH) : mcallv i k ls st h ev = mcallv i k ls st h ev' := by
  have key := mcall_cg he hy k ls st h
  obtain ⟨pc, ins, x, y, sw, a, b, c, d, e⟩ := i
  unfold mcallv
  dsimp only
  rw [key]
theorem mst_cg (he : ∀ y, ok y = true → ev y = ev' y) {i : MI} (hi : lsk ok i = true) (k : Nat) (ls : ML) (st : List Value) (h : MH) : mst i k ls st h ev = mst i k ls st h ev' := by
  obtain ⟨pc, ins, x, y, sw, a, b, c, d, e⟩ := i
  cases ins
  case invokestatic n =>
    match d, hi with
    | 0, hi => exact mcall_cg (i := (pc, .invokestatic n, x, y, sw, a, b, c, 0, e)) he hi k ls st h
    | 1, _ => rfl
    | 2, _ => rfl
    | d + 3, _ => rfl
  case invokevirtual n =>
    match d, hi with
    | 0, hi => exact mcallv_cg (i := (pc, .invokevirtual n, x, y, sw, a, b, c, 0, e)) he hi k ls st h
    | 1, hi => exact mcallv_cg (i := (pc, .invokevirtual n, x, y, sw, a, b, c, 1, e)) he hi k ls st h
    | 2, hi => exact mcallv_cg (i := (pc, .invokevirtual n, x, y, sw, a, b, c, 2, e)) he hi k ls st h
    | 3, _ => rfl
    | d + 4, hi => exact mcallv_cg (i := (pc, .invokevirtual n, x, y, sw, a, b, c, d + 4, e)) he hi k ls st h
  case invokespecial n =>
    match d, hi with
    | 0, hi => exact mcallv_cg (i := (pc, .invokespecial n, x, y, sw, a, b, c, 0, e)) he hi k ls st h
    | 1, hi => exact mcallv_cg (i := (pc, .invokespecial n, x, y, sw, a, b, c, 1, e)) he hi k ls st h
    | 2, _ => rfl
    | d + 3, hi => exact mcallv_cg (i := (pc, .invokespecial n, x, y, sw, a, b, c, d + 3, e)) he hi k ls st h
  all_goals rfl
theorem mX_cg (he : ∀ y, ok y = true → ev y = ev' y) {C : List MI} (hC : C.all (lsk ok) = true) (k : Nat) (ls : ML) (st : List Value) (h : MH) : mX ev C k ls st h = mX ev' C k ls st h := by
  have hh : ∀ f k ls st h, mrun ev C f k ls st h = mrun ev' C f k ls st h := by
    intro f
    induction f with
    | zero => intro k ls st h; rfl
    | succ f ih =>
      intro k ls st h
      rw [mrun, mrun]
      cases hi : C[k]? with
      | none => rfl
      | some i =>
        simp only [Option.bind_some]
        rw [mst_cg he (List.all_eq_true.mp hC i (List.mem_of_getElem? hi)) k ls st h]
        match mst i k ls st h ev' with
        | none => rfl
        | some (.inr r) => rfl
        | some (.inl (k2, ls2, st2, h2)) => exact ih k2 ls2 st2 h2
  cases e : mX ev' C k ls st h with
  | none => exact mX_none.mpr fun f => by rw [hh]; exact mX_none.mp e f
  | some r =>
    obtain ⟨f, hf⟩ := mX_iff.mp e
    exact mX_iff.mpr ⟨f, by rw [hh]; exact hf⟩
end CG
def chk8 (y : Nat) : Bool := match mtab[y]? with
  | some q => q.2.2.2.2.all (lsk okc)
  | none => true
set_option maxRecDepth 100000 in
theorem chk8_all : ∀ y, y < 8 → okc y = true → chk8 y = true := by decide +kernel
set_option maxRecDepth 100000 in
theorem jm_at : ∀ y, okc y = true → jtab[y]? = mtab[y]? := by
  intro y hy
  match y, hy with
  | 0, _ => rfl
  | 1, _ => rfl
  | 2, _ => rfl
  | 3, _ => rfl
  | 4, _ => rfl
  | 5, hy => cases hy
  | 6, _ => rfl
  | 7, _ => rfl
  | y + 8, hy =>
    unfold okc at hy
    rw [Bool.and_eq_true] at hy
    have := Nat.le_of_ble_eq_true hy.1
    omega
theorem mE_same : ∀ d y, okc y = true → mE jtab d y = mE mtab d y := by
  intro d
  induction d with
  | zero => intro y _; rfl
  | succ d ih =>
    intro y hy
    have h8 : y < 8 := by
      unfold okc at hy
      rw [Bool.and_eq_true] at hy
      have := Nat.le_of_ble_eq_true hy.1
      omega
    have hc := chk8_all y h8 hy
    unfold chk8 at hc
    funext as h
    rw [mE, mE]
    dsimp only
    rw [jm_at y hy]
    cases hq : mtab[y]? with
    | none => rfl
    | some q =>
      rw [hq] at hc
      dsimp only at hc ⊢
      rw [mX_cg ih hc]
theorem j0 (d : Nat) {h : MH} {a0 m : Nat} (em : mN h = m) (n0 : ¬ a0 = 0) (lt : a0 < m) (k : kd h a0 = 10) : mE jtab (d + 1) 0 [.ref a0] h = some (.int 0, opsH h (oi0 a0 m)) := by
  rw [mE_same _ 0 rfl]; exact i0 d em n0 lt k
theorem j3 (d : Nat) {h : MH} {a0 m : Nat} (em : mN h = m) (n0 : ¬ a0 = 0) (lt : a0 < m) (k : kd h a0 = 1) : mE jtab (d + 2) 3 [.ref a0] h = some (.int 0, opsH h (oi3 a0 m)) := by
  rw [mE_same _ 3 rfl]; exact i3 d em n0 lt k
theorem j4 (d : Nat) {h : MH} {a0 m : Nat} (em : mN h = m) (n0 : ¬ a0 = 0) (lt : a0 < m) (k : kd h a0 = 8) : mE jtab (d + 1) 4 [.ref a0] h = some (.int 0, opsH h (oi4 a0 m)) := by
  rw [mE_same _ 4 rfl]; exact i4 d em n0 lt k
theorem j6 (d : Nat) {h : MH} {a0 m : Nat} (em : mN h = m) (n0 : ¬ a0 = 0) (lt : a0 < m) (k : kd h a0 = 6) : mE jtab (d + 1) 6 [.ref a0] h = some (.int 0, opsH h (oi6 a0 m)) := by
  rw [mE_same _ 6 rfl]; exact i6 d em n0 lt k
theorem j7 (d : Nat) {h : MH} {a0 m : Nat} (em : mN h = m) (n0 : ¬ a0 = 0) (lt : a0 < m) (k : kd h a0 = 2) : mE jtab (d + 1) 7 [.ref a0] h = some (.int 0, opsH h (oi7 a0 m)) := by
  rw [mE_same _ 7 rfl]; exact i7 d em n0 lt k
def oj5 (a0 m : Nat) : List (Nat × Nat × Nat × Nat) := [(0, 8, 6, 0)] ++ (oi4 m (m + 1) ++ [(1, a0, 0, m), (0, 20, 24, 0), (1, a0, 1, m + 5), (0, 20, 24, 0), (1, a0, 2, m + 6), (0, 20, 24, 0), (1, a0, 3, m + 7), (0, 20, 300, 0), (1, a0, 4, m + 8), (2, a0, 5, 0), (2, a0, 6, 0), (2, a0, 7, 0), (2, a0, 8, 0), (1, a0, 9, 0), (1, a0, 10, 0), (3, a0, 11, 0), (3, a0, 12, 0)])
theorem nlit24 : (¬ (24 : Int32) < 0 ∧ 24 ≤ 1000000) = True := eq_true (by decide)
theorem nlit300 : (¬ (300 : Int32) < 0 ∧ 300 ≤ 1000000) = True := eq_true (by decide)
theorem ixn24 : ix (24 : Int32) = 24 := by decide
theorem ixn300 : ix (300 : Int32) = 300 := by decide
theorem j5 (d : Nat) {h : MH} {a0 m : Nat} (em : mN h = m) (n0 : ¬ a0 = 0) (lt : a0 < m) (k : kd h a0 = 5) : mE jtab (d + 2) 5 [.ref a0] h = some (.int 0, opsH h (oj5 a0 m)) := by
  have ka : ∀ l, kd (opsH h l) a0 = 5 := fun l => (kd_ops l h (by omega)).trans k
  have ml : ∀ l, mN (opsH h l) = m + cnA l := fun l => by rw [mN_ops, em]
  have kn : ∀ l kk n, kd (opsH h (l ++ [(0, kk, n, 0)])) (m + cnA l) = kk := fun l kk n => by
    rw [← opsH_app]
    show kd (mA (opsH h l) kk n) _ = kk
    rw [kd_mA, if_pos (ml l).symm]
  have c4 : ∀ l, mE jtab (d + 1) 4 [.ref (m + cnA l)] (opsH h (l ++ [(0, 8, 6, 0)])) = some (.int 0, opsH h (l ++ [(0, 8, 6, 0)] ++ oi4 (m + cnA l) (m + cnA (l ++ [(0, 8, 6, 0)])))) := fun l => by
    rw [j4 d (m := m + cnA (l ++ [(0, 8, 6, 0)])) (ml _) (by omega) (by rw [cnA_app]; show _ < m + (cnA l + 1); omega) (kn l 8 6), opsH_app]
  have st : mE jtab (d + 2) 5 [.ref a0] (opsH h []) = some (.int 0, opsH h (oj5 a0 m)) := by
    rw [E_X4_init, ck_pos n0]
    simp only [lt_def, A_ops, R_ops, I_ops0, I_opsm, ml, kn, ka, c4, cV_some, ck_true, nlit24, nlit300, ixn24, ixn300, true_and, true_or]
    refine congrArg (fun l => some (Value.int 0, opsH h l)) ?_
    simp only [oj5, cnA_app, cnA, cn_o4, List.nil_append, List.append_assoc, List.cons_append, Nat.reduceAdd, Nat.add_zero, Nat.zero_add]
  exact st
theorem cn_j5 (a m : Nat) : cnA (oj5 a m) = 9 := by
  simp only [oj5, cnA_app, cnA, cn_o4, Nat.reduceAdd, Nat.add_zero, Nat.zero_add]
theorem g_j5 {Z : MH} {r s : Nat} (em : mN Z = s) (lt : r < s) : gR (opsH Z (oj5 r s)) r 0 = s := by
  have hn : ∀ j, (r = s + j) = False := fun j => eq_false (by omega)
  have hn0 : (r = s) = False := eq_false (by omega)
  rw [rd_R, em]
  simp [oj5, oi4, rdR, hn, hn0, Nat.add_assoc]
def oj8 (a0 m : Nat) : List (Nat × Nat × Nat × Nat) := [(0, 1, 9, 0)] ++ (oi3 m (m + 1) ++ ([(1, a0, 0, m), (0, 1, 9, 0)] ++ (oi3 (m + 17) (m + 18) ++ ([(1, a0, 1, m + 17), (0, 10, 11, 0)] ++ (oi0 (m + 34) (m + 35) ++ ([(1, a0, 2, m + 34), (0, 5, 13, 0)] ++ (oj5 (m + 41) (m + 42) ++ ([(1, a0, 3, m + 41), (1, a0, 4, m + 42), (0, 2, 5, 0)] ++ (oi7 (m + 51) (m + 52) ++ [(1, a0, 5, m + 51), (1, a0, 6, 0)])))))))))
theorem j8 (d : Nat) {h : MH} {a0 m : Nat} (em : mN h = m) (n0 : ¬ a0 = 0) (lt : a0 < m) (k : kd h a0 = 11) : mE jtab (d + 3) 8 [.ref a0] h = some (.int 0, opsH h (oj8 a0 m)) := by
  have ka : ∀ l, kd (opsH h l) a0 = 11 := fun l => (kd_ops l h (by omega)).trans k
  have ml : ∀ l, mN (opsH h l) = m + cnA l := fun l => by rw [mN_ops, em]
  have kn : ∀ l kk n, kd (opsH h (l ++ [(0, kk, n, 0)])) (m + cnA l) = kk := fun l kk n => by
    rw [← opsH_app]
    show kd (mA (opsH h l) kk n) _ = kk
    rw [kd_mA, if_pos (ml l).symm]
  have lt1 : ∀ l kk n, m + cnA l < m + cnA (l ++ [(0, kk, n, 0)]) := fun l kk n => by rw [cnA_app]; show _ < m + (cnA l + 1); omega
  have kn5 : ∀ l l1 l2, kd (opsH h (l ++ [(0, 5, 13, 0)] ++ l1 ++ l2)) (m + cnA l) = 5 := fun l l1 l2 => by
    rw [← opsH_app, kd_ops l2 _ (by rw [ml, List.append_assoc, cnA_app, cnA_app]; show _ < m + (cnA l + (1 + cnA l1)); omega), ← opsH_app, kd_ops l1 _ (by rw [ml]; exact lt1 l 5 13)]
    exact kn l 5 13
  have gr3 : ∀ l v, gR (opsH h (l ++ [(1, a0, 3, v)])) a0 3 = v := fun l v => by
    rw [← opsH_app]
    show gR (sR (opsH h l) a0 3 v) a0 3 = v
    rw [gR_sR, if_pos rfl, va_up_self]
  have gr0 : ∀ l, gR (opsH h (l ++ [(0, 5, 13, 0)] ++ oj5 (m + cnA l) (m + cnA (l ++ [(0, 5, 13, 0)])) ++ [(1, a0, 3, m + cnA l)])) (m + cnA l) 0 = m + cnA (l ++ [(0, 5, 13, 0)]) := fun l => by
    rw [← opsH_app]
    show gR (sR (opsH h _) a0 3 _) (m + cnA l) 0 = _
    rw [gR_sR, if_neg (by omega), ← opsH_app]
    exact g_j5 (ml _) (lt1 l 5 13)
  have c3 : ∀ l, mE jtab (d + 2) 3 [.ref (m + cnA l)] (opsH h (l ++ [(0, 1, 9, 0)])) = some (.int 0, opsH h (l ++ [(0, 1, 9, 0)] ++ oi3 (m + cnA l) (m + cnA (l ++ [(0, 1, 9, 0)])))) := fun l => by
    rw [j3 d (m := m + cnA (l ++ [(0, 1, 9, 0)])) (ml _) (by omega) (lt1 l 1 9) (kn l 1 9), opsH_app]
  have c0 : ∀ l, mE jtab (d + 2) 0 [.ref (m + cnA l)] (opsH h (l ++ [(0, 10, 11, 0)])) = some (.int 0, opsH h (l ++ [(0, 10, 11, 0)] ++ oi0 (m + cnA l) (m + cnA (l ++ [(0, 10, 11, 0)])))) := fun l => by
    rw [j0 (d + 1) (m := m + cnA (l ++ [(0, 10, 11, 0)])) (ml _) (by omega) (lt1 l 10 11) (kn l 10 11), opsH_app]
  have c5 : ∀ l, mE jtab (d + 2) 5 [.ref (m + cnA l)] (opsH h (l ++ [(0, 5, 13, 0)])) = some (.int 0, opsH h (l ++ [(0, 5, 13, 0)] ++ oj5 (m + cnA l) (m + cnA (l ++ [(0, 5, 13, 0)])))) := fun l => by
    rw [j5 d (m := m + cnA (l ++ [(0, 5, 13, 0)])) (ml _) (by omega) (lt1 l 5 13) (kn l 5 13), opsH_app]
  have c7 : ∀ l, mE jtab (d + 2) 7 [.ref (m + cnA l)] (opsH h (l ++ [(0, 2, 5, 0)])) = some (.int 0, opsH h (l ++ [(0, 2, 5, 0)] ++ oi7 (m + cnA l) (m + cnA (l ++ [(0, 2, 5, 0)])))) := fun l => by
    rw [j7 (d + 1) (m := m + cnA (l ++ [(0, 2, 5, 0)])) (ml _) (by omega) (lt1 l 2 5) (kn l 2 5), opsH_app]
  have st : mE jtab (d + 3) 8 [.ref a0] (opsH h []) = some (.int 0, opsH h (oj8 a0 m)) := by
    rw [E_X10_init, ck_pos n0]
    simp only [lt_def, A_ops, R_ops, ml, kn, kn5, ka, gr3, gr0, c0, c3, c5, c7, cV_some, ck_true]
    refine congrArg (fun l => some (Value.int 0, opsH h l)) ?_
    simp only [oj8, cnA_app, cnA, cn_o0, cn_o3, cn_j5, cn_o7, List.nil_append, List.append_assoc, List.cons_append, Nat.reduceAdd, Nat.add_zero, Nat.zero_add]
  exact st
