--deps:19.lay 21.facts 22.00.names 22.01.eq 22.02.eq 22.03.eq 22.04.eq 22.05.eq 22.06.eq 22.07.eq 22.08.eq 22.09.eq 22.10.eq 22.11.eq 22.12.eq 22.13.eq 22.14.eq 22.15.eq 22.16.eq 22.17.eq 22.18.eq 22.19.eq 22.20.eq 22.21.eq 22.22.eq 22.23.eq 23.num 24.town 25.evc 26.evm 27.law 28.says 29.inv 30.api1 31.copy 49.image 66.script 68.inits 69.init2 70.init3
/-! LISTS OF WRITES, read; the constructor of the reference -/
set_option linter.unusedSectionVars false
def alL (m : Nat) : List (Nat × Nat × Nat × Nat) → Nat → Option (Nat × Nat)
  | [], _ => none
  | o :: l, a => match o.1 with
    | 0 => if a = m then some (o.2.1, o.2.2.1) else alL (m + 1) l a
    | _ => alL m l a
def rdR (m : Nat) : List (Nat × Nat × Nat × Nat) → Nat → Nat → Nat → Nat
  | [], _, _, v => v
  | o :: l, a, k, v => match o.1 with
    | 0 => rdR (m + 1) l a k (if a = m then 0 else v)
    | 1 => rdR m l a k (if a = o.2.1 ∧ k = o.2.2.1 then o.2.2.2 else v)
    | _ => rdR m l a k v
def rdI (m : Nat) : List (Nat × Nat × Nat × Nat) → Nat → Nat → Int32 → Int32
  | [], _, _, v => v
  | o :: l, a, k, v => match o.1 with
    | 0 => rdI (m + 1) l a k (if a = m then 0 else v)
    | 1 => rdI m l a k v
    | 2 => rdI m l a k (if a = o.2.1 ∧ k = o.2.2.1 then nI o.2.2.2 else v)
    | _ => rdI m l a k (if a = o.2.1 ∧ k = o.2.2.1 then -1 else v)
theorem ln_op {h : MH} {o : Nat × Nat × Nat × Nat} {a : Nat} (ha : a < mN h) : ln (opH h o) a = ln h a := by
  obtain ⟨t, x, y, z⟩ := o
  match t with
  | 0 =>
    show ln (mA h x y) a = _
    rw [ln_mA, if_neg (by omega)]
  | 1 => rfl
  | 2 => rfl
  | _ + 3 => rfl
theorem ln_ops {a : Nat} : ∀ (l : List (Nat × Nat × Nat × Nat)) (h : MH), a < mN h → ln (opsH h l) a = ln h a := by
  intro l
  induction l with
  | nil => intro h _; rfl
  | cons o l ih =>
    intro h ha
    rw [opsH, ih _ (by rw [mN_op]; omega), ln_op ha]
theorem al_ops (a : Nat) : ∀ (l : List (Nat × Nat × Nat × Nat)) (h : MH), (kd (opsH h l) a, ln (opsH h l) a) = (alL (mN h) l a).getD (kd h a, ln h a) := by
  intro l
  induction l with
  | nil => intro h; rfl
  | cons o l ih =>
    intro h
    obtain ⟨t, x, y, z⟩ := o
    match t with
    | 0 =>
      show (kd (opsH (mA h x y) l) a, ln (opsH (mA h x y) l) a) = (if a = mN h then some (x, y) else alL (mN h + 1) l a).getD (kd h a, ln h a)
      by_cases c : a = mN h
      · rw [if_pos c, kd_ops l _ (by rw [mN_mA]; omega), ln_ops l _ (by rw [mN_mA]; omega), kd_mA, ln_mA, if_pos c, if_pos c]
        rfl
      · rw [if_neg c, ih, mN_mA, kd_mA, ln_mA, if_neg c, if_neg c]
    | 1 => exact ih (sR h x y z)
    | 2 => exact ih (sI h x y (nI z))
    | _ + 3 => exact ih (sI h x y (-1))
theorem rd_R (a k : Nat) : ∀ (l : List (Nat × Nat × Nat × Nat)) (h : MH), gR (opsH h l) a k = rdR (mN h) l a k (gR h a k) := by
  intro l
  induction l with
  | nil => intro h; rfl
  | cons o l ih =>
    intro h
    obtain ⟨t, x, y, z⟩ := o
    match t with
    | 0 =>
      show gR (opsH (mA h x y) l) a k = rdR (mN h + 1) l a k (if a = mN h then 0 else gR h a k)
      rw [ih, mN_mA, gR_mA]
      by_cases c : a = mN h
      · rw [if_pos c, if_pos c]
      · rw [if_neg c, if_neg c]
    | 1 =>
      show gR (opsH (sR h x y z) l) a k = rdR (mN h) l a k (if a = x ∧ k = y then z else gR h a k)
      rw [ih]
      show rdR (mN h) l a k ((if a = x then va_up (gR h x) y z else gR h a) k) = _
      by_cases c : a = x
      · rw [if_pos c]
        by_cases e : k = y
        · rw [if_pos ⟨c, e⟩, e]; congr 1; exact if_pos rfl
        · rw [if_neg (fun q => e q.2), c]; congr 1; exact if_neg e
      · rw [if_neg c, if_neg (fun q => c q.1)]
    | 2 => exact ih (sI h x y (nI z))
    | _ + 3 => exact ih (sI h x y (-1))
theorem rd_I (a k : Nat) : ∀ (l : List (Nat × Nat × Nat × Nat)) (h : MH), gI (opsH h l) a k = rdI (mN h) l a k (gI h a k) := by
  have one : ∀ (h : MH) (x y : Nat) (v : Int32), gI (sI h x y v) a k = if a = x ∧ k = y then v else gI h a k := by
    intro h x y v
    show (if a = x then va_up (gI h x) y v else gI h a) k = _
    by_cases c : a = x
    · rw [if_pos c]
      by_cases e : k = y
      · rw [if_pos ⟨c, e⟩, e]; exact if_pos rfl
      · rw [if_neg (fun q => e q.2), c]; exact if_neg e
    · rw [if_neg c, if_neg (fun q => c q.1)]
  intro l
  induction l with
  | nil => intro h; rfl
  | cons o l ih =>
    intro h
    obtain ⟨t, x, y, z⟩ := o
    match t with
    | 0 =>
      show gI (opsH (mA h x y) l) a k = rdI (mN h + 1) l a k (if a = mN h then 0 else gI h a k)
      rw [ih, mN_mA, gI_mA]
      by_cases c : a = mN h
      · rw [if_pos c, if_pos c]
      · rw [if_neg c, if_neg c]
    | 1 => exact ih (sR h x y z)
    | 2 =>
      show gI (opsH (sI h x y (nI z)) l) a k = rdI (mN h) l a k (if a = x ∧ k = y then nI z else gI h a k)
      rw [ih, one]
      rfl
    | _ + 3 =>
      show gI (opsH (sI h x y (-1)) l) a k = rdI (mN h) l a k (if a = x ∧ k = y then -1 else gI h a k)
      rw [ih, one]
      rfl
/-- a row that nothing writes -/
def noW (a : Nat) (l : List (Nat × Nat × Nat × Nat)) : Bool := l.all fun o => !(Nat.ble 2 o.1 && Nat.beq o.2.1 a)
theorem rdI_no {a k : Nat} : ∀ (l : List (Nat × Nat × Nat × Nat)) (m : Nat) (v : Int32), noW a l = true → rdI m l a k v = if (alL m l a).isSome = true then 0 else v := by
  intro l
  induction l with
  | nil => intro m v _; rfl
  | cons o l ih =>
    intro m v hn
    unfold noW at hn
    rw [List.all_cons, Bool.and_eq_true] at hn
    obtain ⟨t, x, y, z⟩ := o
    have hl : noW a l = true := hn.2
    have nx : 2 ≤ t → ¬ a = x := fun ht e => by
      have := hn.1
      rw [e] at this
      have hb : Nat.ble 2 t = true := Nat.ble_eq.mpr ht
      have hq : Nat.beq x x = true := Nat.beq_refl x
      simp only [hb, hq, Bool.and_self, Bool.not_true] at this
      cases this
    match t, nx with
    | 0, _ =>
      show rdI (m + 1) l a k (if a = m then 0 else v) = if (if a = m then some (x, y) else alL (m + 1) l a).isSome = true then 0 else v
      rw [ih (m + 1) _ hl]
      by_cases c : a = m
      · rw [if_pos c, if_pos c, ite_self]
        rfl
      · rw [if_neg c, if_neg c]
    | 1, _ => exact ih m v hl
    | 2, nx =>
      show rdI m l a k (if a = x ∧ k = y then nI z else v) = _
      rw [if_neg (fun q => nx (by omega) q.1)]
      exact ih m v hl
    | t + 3, nx =>
      show rdI m l a k (if a = x ∧ k = y then -1 else v) = _
      rw [if_neg (fun q => nx (by omega) q.1)]
      exact ih m v hl
theorem I_ops1 (h : MH) (l : List (Nat × Nat × Nat × Nat)) (a k : Nat) : sI (opsH h l) a k 1 = opsH h (l ++ [(2, a, k, 1)]) := by rw [← opsH_app]; rfl
theorem I_ops349 (h : MH) (l : List (Nat × Nat × Nat × Nat)) (a k : Nat) : sI (opsH h l) a k 349 = opsH h (l ++ [(2, a, k, 349)]) := by rw [← opsH_app]; rfl
theorem klit4 : (¬ (4 : Int32) < 0 ∧ 4 ≤ 1000000) = True := eq_true (by decide)
theorem ixk4 : ix (4 : Int32) = 4 := by decide
theorem klit7 : (¬ (7 : Int32) < 0 ∧ 7 ≤ 1000000) = True := eq_true (by decide)
theorem ixk7 : ix (7 : Int32) = 7 := by decide
theorem klit16 : (¬ (16 : Int32) < 0 ∧ 16 ≤ 1000000) = True := eq_true (by decide)
theorem ixk16 : ix (16 : Int32) = 16 := by decide
theorem klit22 : (¬ (22 : Int32) < 0 ∧ 22 ≤ 1000000) = True := eq_true (by decide)
theorem ixk22 : ix (22 : Int32) = 22 := by decide
theorem klit160 : (¬ (160 : Int32) < 0 ∧ 160 ≤ 1000000) = True := eq_true (by decide)
theorem ixk160 : ix (160 : Int32) = 160 := by decide
theorem klit300 : (¬ (300 : Int32) < 0 ∧ 300 ≤ 1000000) = True := eq_true (by decide)
theorem ixk300 : ix (300 : Int32) = 300 := by decide
theorem klit330 : (¬ (330 : Int32) < 0 ∧ 330 ≤ 1000000) = True := eq_true (by decide)
theorem ixk330 : ix (330 : Int32) = 330 := by decide
theorem klit1498 : (¬ (1498 : Int32) < 0 ∧ 1498 ≤ 1000000) = True := eq_true (by decide)
theorem ixk1498 : ix (1498 : Int32) = 1498 := by decide
theorem klit2724 : (¬ (2724 : Int32) < 0 ∧ 2724 ≤ 1000000) = True := eq_true (by decide)
theorem ixk2724 : ix (2724 : Int32) = 2724 := by decide
theorem klit6561 : (¬ (6561 : Int32) < 0 ∧ 6561 ≤ 1000000) = True := eq_true (by decide)
theorem ixk6561 : ix (6561 : Int32) = 6561 := by decide
def oiA : List (Nat × Nat × Nat × Nat) := [(0, 20, 1498, 0), (1, 67, 0, 68), (0, 20, 1498, 0), (1, 67, 1, 69), (0, 20, 2724, 0), (1, 67, 2, 70), (0, 20, 300, 0), (1, 67, 3, 71), (3, 67, 5, 0), (3, 67, 6, 0), (0, 20, 160, 0), (1, 67, 15, 72), (0, 20, 7, 0), (1, 67, 20, 73), (0, 21, 330, 0), (1, 67, 21, 74), (0, 22, 330, 0), (1, 67, 22, 75), (2, 67, 23, 1), (0, 20, 22, 0), (1, 67, 25, 76), (0, 20, 6561, 0), (1, 67, 26, 77), (0, 20, 6561, 0), (1, 67, 27, 78), (0, 22, 6561, 0), (1, 67, 28, 79), (0, 20, 4, 0), (1, 67, 29, 80), (0, 20, 4, 0), (1, 67, 30, 81), (0, 22, 16, 0), (1, 67, 31, 82), (0, 21, 16, 0), (1, 67, 32, 83)]
def oiX : List (Nat × Nat × Nat × Nat) := oiA ++ [(2, 68, 7, 349), (3, 68, 3, 0)]
theorem i10m (d : Nat) {h : MH} (em : mN h = 68) (k : kd h 67 = 12) : mE mtab (d + 1) 10 [.ref 67] h = mX (mE mtab d) KX11_init 87 [some (.ref 67), some (.int 0)] [] (opsH h oiX) := by
  have ka : ∀ l, (kd (opsH h l) 67 = 12) = True := fun l => eq_true ((kd_ops l h (by omega)).trans k)
  have ml : ∀ l, mN (opsH h l) = 68 + cnA l := fun l => by rw [mN_ops, em]
  have ra : gR (opsH h oiA) 67 0 = 68 := by rw [rd_R, em]; rfl
  have aa := al_ops 68 oiA h
  rw [em] at aa
  have kA : kd (opsH h oiA) 68 = 20 := congrArg Prod.fst aa
  have lA : ln (opsH h oiA) 68 = 1498 := congrArg Prod.snd aa
  have st : mE mtab (d + 1) 10 [.ref 67] (opsH h []) = mX (mE mtab d) KX11_init 87 [some (.ref 67), some (.int 0)] [] (opsH h oiX) := by
    rw [D_X11_init, ck_pos (by decide)]
    simp only [lt_def, A_ops, R_ops, I_opsm, I_ops1, ml, ka, ck_true, true_and, true_or, klit4, klit7, klit16, klit22, klit160, klit300, klit330, klit1498, klit2724, klit6561, ixk4, ixk7, ixk16, ixk22, ixk160, ixk300, ixk330, ixk1498, ixk2724, ixk6561, List.nil_append, List.cons_append, cnA, Nat.reduceAdd, Nat.add_zero, Nat.zero_add, or_true, show ((1 : Int32) = 0 ∨ (1 : Int32) = 1) = True from eq_true (by decide)]
    rw [show ([(0, 20, 1498, 0), (1, 67, 0, 68), (0, 20, 1498, 0), (1, 67, 1, 69), (0, 20, 2724, 0), (1, 67, 2, 70), (0, 20, 300, 0), (1, 67, 3, 71), (3, 67, 5, 0), (3, 67, 6, 0), (0, 20, 160, 0), (1, 67, 15, 72), (0, 20, 7, 0), (1, 67, 20, 73), (0, 21, 330, 0), (1, 67, 21, 74), (0, 22, 330, 0), (1, 67, 22, 75), (2, 67, 23, 1), (0, 20, 22, 0), (1, 67, 25, 76), (0, 20, 6561, 0), (1, 67, 26, 77), (0, 20, 6561, 0), (1, 67, 27, 78), (0, 22, 6561, 0), (1, 67, 28, 79), (0, 20, 4, 0), (1, 67, 29, 80), (0, 20, 4, 0), (1, 67, 30, 81), (0, 22, 16, 0), (1, 67, 31, 82), (0, 21, 16, 0), (1, 67, 32, 83)] : List (Nat × Nat × Nat × Nat)) = oiA from rfl, ra]
    have i7 : ib (7 : Int32) 1498 := ib_nI (n := 7) (by omega) (by omega)
    have i3' : ib (3 : Int32) 1498 := ib_nI (n := 3) (by omega) (by omega)
    have eF : opsH h oiX = opsH (opsH h oiA) [(2, 68, 7, 349), (3, 68, 3, 0)] := (opsH_app _ _ _).symm
    have k67 : kd (opsH h oiA) 67 = 12 := (kd_ops oiA h (by omega)).trans k
    rw [eF]
    generalize opsH h oiA = Y at ra kA lA k67 ⊢
    rw [kA, lA, ck_pos ⟨rfl, i7⟩, kd_sI, k67, ck_pos rfl, gR_sI, ra, kd_sI, kA, ln_sI, lA, ck_pos ⟨rfl, i3'⟩]
    rfl
  exact st
