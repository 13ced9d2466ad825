--deps:19.lay 21.facts 22.00.names 22.01.eq 22.02.eq 22.03.eq 22.04.eq 22.05.eq 22.06.eq 22.07.eq 22.08.eq 22.09.eq 22.10.eq 22.11.eq 22.12.eq 22.13.eq 22.14.eq 22.15.eq 22.16.eq 22.17.eq 22.18.eq 22.19.eq 22.20.eq 22.21.eq 22.22.eq 22.23.eq 23.num 24.town 25.evc 26.evm 27.law 28.says 29.inv 30.api1 31.copy 66.script
/-! THE CONSTRUCTORS, as lists of what they write -/
set_option linter.unusedSectionVars false
def opH (h : MH) (o : Nat × Nat × Nat × Nat) : MH := match o.1 with
  | 0 => mA h o.2.1 o.2.2.1
  | 1 => sR h o.2.1 o.2.2.1 o.2.2.2
  | 2 => sI h o.2.1 o.2.2.1 (nI o.2.2.2)
  | _ => sI h o.2.1 o.2.2.1 (-1)
def opsH (h : MH) : List (Nat × Nat × Nat × Nat) → MH
  | [] => h
  | o :: l => opsH (opH h o) l
def cnA : List (Nat × Nat × Nat × Nat) → Nat
  | [] => 0
  | o :: l => (match o.1 with
    | 0 => 1
    | _ => 0) + cnA l
theorem mN_op (h : MH) (o : Nat × Nat × Nat × Nat) : mN (opH h o) = mN h + (match o.1 with
    | 0 => 1
    | _ => 0) := by
  obtain ⟨t, a, b, c⟩ := o
  match t with
  | 0 => rfl
  | 1 => rfl
  | 2 => rfl
  | _ + 3 => rfl
theorem mN_ops : ∀ (l : List (Nat × Nat × Nat × Nat)) (h : MH), mN (opsH h l) = mN h + cnA l := by
  intro l
  induction l with
  | nil => intro h; rfl
  | cons o l ih =>
    intro h
    rw [opsH, ih, mN_op, cnA, Nat.add_assoc]
theorem kd_op {h : MH} {o : Nat × Nat × Nat × Nat} {a : Nat} (ha : a < mN h) : kd (opH h o) a = kd h a := by
  obtain ⟨t, x, y, z⟩ := o
  match t with
  | 0 =>
    show kd (mA h x y) a = _
    rw [kd_mA, if_neg (by omega)]
  | 1 => rfl
  | 2 => rfl
  | _ + 3 => rfl
theorem kd_ops {a : Nat} : ∀ (l : List (Nat × Nat × Nat × Nat)) (h : MH), a < mN h → kd (opsH h l) a = kd h a := by
  intro l
  induction l with
  | nil => intro h _; rfl
  | cons o l ih =>
    intro h ha
    rw [opsH, ih _ (by rw [mN_op]; omega), kd_op ha]
theorem opsH_app : ∀ (l l' : List (Nat × Nat × Nat × Nat)) (h : MH), opsH (opsH h l) l' = opsH h (l ++ l') := by
  intro l
  induction l with
  | nil => intro l' h; rfl
  | cons o l ih => intro l' h; exact ih l' _
theorem cnA_app : ∀ (l l' : List (Nat × Nat × Nat × Nat)), cnA (l ++ l') = cnA l + cnA l' := by
  intro l
  induction l with
  | nil => intro l'; rw [List.nil_append, cnA, Nat.zero_add]
  | cons o l ih => intro l'; rw [List.cons_append, cnA, cnA, ih, Nat.add_assoc]
theorem ilit4 : (¬ (4 : Int32) < 0 ∧ ix (4 : Int32) ≤ 1000000) = True := eq_true (by decide)
theorem ilit7 : (¬ (7 : Int32) < 0 ∧ ix (7 : Int32) ≤ 1000000) = True := eq_true (by decide)
theorem ilit8 : (¬ (8 : Int32) < 0 ∧ ix (8 : Int32) ≤ 1000000) = True := eq_true (by decide)
theorem ilit9 : (¬ (9 : Int32) < 0 ∧ ix (9 : Int32) ≤ 1000000) = True := eq_true (by decide)
theorem ilit16 : (¬ (16 : Int32) < 0 ∧ ix (16 : Int32) ≤ 1000000) = True := eq_true (by decide)
theorem ilit24 : (¬ (24 : Int32) < 0 ∧ ix (24 : Int32) ≤ 1000000) = True := eq_true (by decide)
theorem ilit30 : (¬ (30 : Int32) < 0 ∧ ix (30 : Int32) ≤ 1000000) = True := eq_true (by decide)
theorem ilit300 : (¬ (300 : Int32) < 0 ∧ ix (300 : Int32) ≤ 1000000) = True := eq_true (by decide)
theorem ilit301 : (¬ (301 : Int32) < 0 ∧ ix (301 : Int32) ≤ 1000000) = True := eq_true (by decide)
theorem ilit1457 : (¬ (1457 : Int32) < 0 ∧ ix (1457 : Int32) ≤ 1000000) = True := eq_true (by decide)
theorem ilit6561 : (¬ (6561 : Int32) < 0 ∧ ix (6561 : Int32) ≤ 1000000) = True := eq_true (by decide)
def oi0 (a0 m : Nat) : List (Nat × Nat × Nat × Nat) := [(2, a0, 0, 0), (0, 20, 4, 0), (1, a0, 1, m + 0), (0, 20, 4, 0), (1, a0, 2, m + 1), (0, 20, 4, 0), (1, a0, 3, m + 2), (0, 20, 9, 0), (1, a0, 4, m + 3), (2, a0, 5, 0), (2, a0, 6, 349), (0, 20, 30, 0), (1, a0, 7, m + 4), (2, a0, 8, 0), (1, a0, 9, 0), (0, 20, 7, 0), (1, a0, 10, m + 5)]
theorem mN_o0 (h : MH) (a0 m : Nat) : mN (opsH h (oi0 a0 m)) = mN h + 6 := by rw [mN_ops]; rfl
theorem i0 (d : Nat) {h : MH} {a0 m : Nat} (em : mN h = m) (n0 : ¬ a0 = 0) (lt : a0 < m) (k : kd h a0 = 10) : mE mtab (d + 1) 0 [.ref a0] h = some (.int 0, opsH h (oi0 a0 m)) := by
  have hn : ∀ j, (a0 = m + j) = False := fun j => eq_false (by omega)
  have hn0 : (a0 = m) = False := eq_false (by omega)
  rw [D_X9_init]
  simp only [n0, not_false_eq_true, ck_true, k, lt_def, kd_sI, kd_sR, kd_mA, mN_sI, mN_sR, mN_mA, em, hn, hn0, if_false, true_and, true_or, Nat.add_assoc, Nat.reduceAdd, ilit4, ilit7, ilit8, ilit9, ilit16, ilit24, ilit30, ilit300, ilit301, ilit1457, ilit6561]
  rfl
def oi1 (a0 m : Nat) : List (Nat × Nat × Nat × Nat) := [(0, 20, 1457, 0), (1, a0, 0, m + 0), (2, a0, 1, 0), (2, a0, 2, 0)]
theorem mN_o1 (h : MH) (a0 m : Nat) : mN (opsH h (oi1 a0 m)) = mN h + 1 := by rw [mN_ops]; rfl
theorem i1 (d : Nat) {h : MH} {a0 m : Nat} (em : mN h = m) (n0 : ¬ a0 = 0) (lt : a0 < m) (k : kd h a0 = 7) : mE mtab (d + 1) 1 [.ref a0] h = some (.int 0, opsH h (oi1 a0 m)) := by
  have hn : ∀ j, (a0 = m + j) = False := fun j => eq_false (by omega)
  have hn0 : (a0 = m) = False := eq_false (by omega)
  rw [D_X6_init]
  simp only [n0, not_false_eq_true, ck_true, k, lt_def, kd_sI, kd_sR, kd_mA, mN_sI, mN_sR, mN_mA, em, hn, hn0, if_false, true_and, true_or, Nat.add_assoc, Nat.reduceAdd, ilit4, ilit7, ilit8, ilit9, ilit16, ilit24, ilit30, ilit300, ilit301, ilit1457, ilit6561]
  rfl
def oi2 (a0 m : Nat) : List (Nat × Nat × Nat × Nat) := [(0, 20, 4, 0), (1, a0, 0, m + 0), (0, 20, 4, 0), (1, a0, 1, m + 1), (0, 20, 4, 0), (1, a0, 2, m + 2), (2, a0, 3, 0)]
theorem mN_o2 (h : MH) (a0 m : Nat) : mN (opsH h (oi2 a0 m)) = mN h + 3 := by rw [mN_ops]; rfl
theorem i2 (d : Nat) {h : MH} {a0 m : Nat} (em : mN h = m) (n0 : ¬ a0 = 0) (lt : a0 < m) (k : kd h a0 = 3) : mE mtab (d + 1) 2 [.ref a0] h = some (.int 0, opsH h (oi2 a0 m)) := by
  have hn : ∀ j, (a0 = m + j) = False := fun j => eq_false (by omega)
  have hn0 : (a0 = m) = False := eq_false (by omega)
  rw [D_X2_init]
  simp only [n0, not_false_eq_true, ck_true, k, lt_def, kd_sI, kd_sR, kd_mA, mN_sI, mN_sR, mN_mA, em, hn, hn0, if_false, true_and, true_or, Nat.add_assoc, Nat.reduceAdd, ilit4, ilit7, ilit8, ilit9, ilit16, ilit24, ilit30, ilit300, ilit301, ilit1457, ilit6561]
  rfl
def oi3 (a0 m : Nat) : List (Nat × Nat × Nat × Nat) := [(0, 10, 11, 0)] ++ (oi0 (m + 0) (m + 1) ++ ([(1, a0, 0, m + 0), (0, 7, 3, 0)] ++ (oi1 (m + 7) (m + 8) ++ ([(1, a0, 1, m + 7), (0, 3, 4, 0)] ++ (oi2 (m + 9) (m + 10) ++ ([(1, a0, 2, m + 9), (0, 23, 4, 0), (1, a0, 3, m + 13), (2, a0, 4, 0), (3, a0, 5, 0), (0, 20, 8, 0), (1, a0, 6, m + 14), (0, 20, 8, 0), (1, a0, 7, m + 15), (2, a0, 8, 0)]))))))
def oi4 (a0 m : Nat) : List (Nat × Nat × Nat × Nat) := [(0, 20, 300, 0), (1, a0, 0, m + 0), (2, a0, 1, 0), (0, 20, 301, 0), (1, a0, 2, m + 1), (0, 20, 301, 0), (1, a0, 3, m + 2), (0, 20, 301, 0), (1, a0, 4, m + 3), (2, a0, 5, 0)]
theorem mN_o4 (h : MH) (a0 m : Nat) : mN (opsH h (oi4 a0 m)) = mN h + 4 := by rw [mN_ops]; rfl
theorem i4 (d : Nat) {h : MH} {a0 m : Nat} (em : mN h = m) (n0 : ¬ a0 = 0) (lt : a0 < m) (k : kd h a0 = 8) : mE mtab (d + 1) 4 [.ref a0] h = some (.int 0, opsH h (oi4 a0 m)) := by
  have hn : ∀ j, (a0 = m + j) = False := fun j => eq_false (by omega)
  have hn0 : (a0 = m) = False := eq_false (by omega)
  rw [D_X7_init]
  simp only [n0, not_false_eq_true, ck_true, k, lt_def, kd_sI, kd_sR, kd_mA, mN_sI, mN_sR, mN_mA, em, hn, hn0, if_false, true_and, true_or, Nat.add_assoc, Nat.reduceAdd, ilit4, ilit7, ilit8, ilit9, ilit16, ilit24, ilit30, ilit300, ilit301, ilit1457, ilit6561]
  rfl
def oi5 (a0 m : Nat) (a1 : Nat) : List (Nat × Nat × Nat × Nat) := [(0, 20, 24, 0), (1, a0, 1, m + 0), (0, 20, 24, 0), (1, a0, 2, m + 1), (0, 20, 24, 0), (1, a0, 3, m + 2), (0, 20, 300, 0), (1, a0, 4, m + 3), (2, a0, 5, 0), (2, a0, 6, 0), (2, a0, 7, 0), (2, a0, 8, 0), (1, a0, 9, 0), (1, a0, 10, 0), (3, a0, 11, 0), (3, a0, 12, 0), (1, a0, 0, a1)]
theorem mN_o5 (h : MH) (a0 m a1 : Nat) : mN (opsH h (oi5 a0 m a1)) = mN h + 4 := by rw [mN_ops]; rfl
theorem i5 (d : Nat) {h : MH} {a0 m a1 : Nat} (em : mN h = m) (n0 : ¬ a0 = 0) (lt : a0 < m) (k : kd h a0 = 5) : mE mtab (d + 1) 5 [.ref a0, .ref a1] h = some (.int 0, opsH h (oi5 a0 m a1)) := by
  have hn : ∀ j, (a0 = m + j) = False := fun j => eq_false (by omega)
  have hn0 : (a0 = m) = False := eq_false (by omega)
  rw [D_X4_init]
  simp only [n0, not_false_eq_true, ck_true, k, lt_def, kd_sI, kd_sR, kd_mA, mN_sI, mN_sR, mN_mA, em, hn, hn0, if_false, true_and, true_or, Nat.add_assoc, Nat.reduceAdd, ilit4, ilit7, ilit8, ilit9, ilit16, ilit24, ilit30, ilit300, ilit301, ilit1457, ilit6561]
  rfl
def oi6 (a0 m : Nat) : List (Nat × Nat × Nat × Nat) := [(0, 20, 6561, 0), (1, a0, 0, m + 0), (0, 20, 6561, 0), (1, a0, 1, m + 1), (2, a0, 2, 0), (3, a0, 3, 0)]
theorem mN_o6 (h : MH) (a0 m : Nat) : mN (opsH h (oi6 a0 m)) = mN h + 2 := by rw [mN_ops]; rfl
theorem i6 (d : Nat) {h : MH} {a0 m : Nat} (em : mN h = m) (n0 : ¬ a0 = 0) (lt : a0 < m) (k : kd h a0 = 6) : mE mtab (d + 1) 6 [.ref a0] h = some (.int 0, opsH h (oi6 a0 m)) := by
  have hn : ∀ j, (a0 = m + j) = False := fun j => eq_false (by omega)
  have hn0 : (a0 = m) = False := eq_false (by omega)
  rw [D_X5_init]
  simp only [n0, not_false_eq_true, ck_true, k, lt_def, kd_sI, kd_sR, kd_mA, mN_sI, mN_sR, mN_mA, em, hn, hn0, if_false, true_and, true_or, Nat.add_assoc, Nat.reduceAdd, ilit4, ilit7, ilit8, ilit9, ilit16, ilit24, ilit30, ilit300, ilit301, ilit1457, ilit6561]
  rfl
def oi7 (a0 m : Nat) : List (Nat × Nat × Nat × Nat) := [(0, 20, 16, 0), (1, a0, 0, m + 0), (0, 21, 16, 0), (1, a0, 1, m + 1), (0, 22, 16, 0), (1, a0, 2, m + 2), (2, a0, 3, 0), (2, a0, 4, 0)]
theorem mN_o7 (h : MH) (a0 m : Nat) : mN (opsH h (oi7 a0 m)) = mN h + 3 := by rw [mN_ops]; rfl
theorem i7 (d : Nat) {h : MH} {a0 m : Nat} (em : mN h = m) (n0 : ¬ a0 = 0) (lt : a0 < m) (k : kd h a0 = 2) : mE mtab (d + 1) 7 [.ref a0] h = some (.int 0, opsH h (oi7 a0 m)) := by
  have hn : ∀ j, (a0 = m + j) = False := fun j => eq_false (by omega)
  have hn0 : (a0 = m) = False := eq_false (by omega)
  rw [D_X1_init]
  simp only [n0, not_false_eq_true, ck_true, k, lt_def, kd_sI, kd_sR, kd_mA, mN_sI, mN_sR, mN_mA, em, hn, hn0, if_false, true_and, true_or, Nat.add_assoc, Nat.reduceAdd, ilit4, ilit7, ilit8, ilit9, ilit16, ilit24, ilit30, ilit300, ilit301, ilit1457, ilit6561]
  rfl
def oi8 (a0 m : Nat) : List (Nat × Nat × Nat × Nat) := [(0, 1, 9, 0)] ++ (oi3 (m + 0) (m + 1) ++ ([(1, a0, 0, m + 0), (0, 1, 9, 0)] ++ (oi3 (m + 17) (m + 18) ++ ([(1, a0, 1, m + 17), (0, 10, 11, 0)] ++ (oi0 (m + 34) (m + 35) ++ ([(1, a0, 2, m + 34), (0, 8, 6, 0)] ++ (oi4 (m + 41) (m + 42) ++ ([(1, a0, 3, m + 41), (0, 5, 13, 0)] ++ (oi5 (m + 46) (m + 47) (m + 41) ++ ([(1, a0, 4, m + 46), (0, 6, 4, 0)] ++ (oi6 (m + 51) (m + 52) ++ ([(1, a0, 5, m + 51), (0, 2, 5, 0)] ++ (oi7 (m + 54) (m + 55) ++ ([(1, a0, 6, m + 54)]))))))))))))))
