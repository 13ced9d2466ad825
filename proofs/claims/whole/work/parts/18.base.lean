/-! LAYER 2, BASE: heaps, loops, sums, the smallest methods -/
theorem kd_sI (h : MH) (a k b : Nat) (v : Int32) : kd (sI h a k v) b = kd h b := rfl
theorem kd_sL (h : MH) (a k b : Nat) (v : Int64) : kd (sL h a k v) b = kd h b := rfl
theorem kd_sR (h : MH) (a k b : Nat) (v : Nat) : kd (sR h a k v) b = kd h b := rfl
theorem ln_sI (h : MH) (a k b : Nat) (v : Int32) : ln (sI h a k v) b = ln h b := rfl
theorem ln_sL (h : MH) (a k b : Nat) (v : Int64) : ln (sL h a k v) b = ln h b := rfl
theorem ln_sR (h : MH) (a k b : Nat) (v : Nat) : ln (sR h a k v) b = ln h b := rfl
theorem gI_sI (h : MH) (a k b : Nat) (v : Int32) : gI (sI h a k v) b = if b = a then va_up (gI h a) k v else gI h b := rfl
theorem gI_sL (h : MH) (a k b : Nat) (v : Int64) : gI (sL h a k v) b = gI h b := rfl
theorem gI_sR (h : MH) (a k b : Nat) (v : Nat) : gI (sR h a k v) b = gI h b := rfl
theorem gL_sI (h : MH) (a k b : Nat) (v : Int32) : gL (sI h a k v) b = gL h b := rfl
theorem gL_sL (h : MH) (a k b : Nat) (v : Int64) : gL (sL h a k v) b = if b = a then va_up (gL h a) k v else gL h b := rfl
theorem gL_sR (h : MH) (a k b : Nat) (v : Nat) : gL (sR h a k v) b = gL h b := rfl
theorem gR_sI (h : MH) (a k b : Nat) (v : Int32) : gR (sI h a k v) b = gR h b := rfl
theorem gR_sL (h : MH) (a k b : Nat) (v : Int64) : gR (sL h a k v) b = gR h b := rfl
theorem gR_sR (h : MH) (a k b : Nat) (v : Nat) : gR (sR h a k v) b = if b = a then va_up (gR h a) k v else gR h b := rfl
theorem mN_sI (h : MH) (a k : Nat) (v : Int32) : mN (sI h a k v) = mN h := rfl
theorem mN_sL (h : MH) (a k : Nat) (v : Int64) : mN (sL h a k v) = mN h := rfl
theorem mN_sR (h : MH) (a k : Nat) (v : Nat) : mN (sR h a k v) = mN h := rfl
theorem mN_rI (h : MH) (a : Nat) (f : Nat → Int32) : mN (rI h a f) = mN h := rfl
theorem mN_mA (h : MH) (kn n : Nat) : mN (mA h kn n) = mN h + 1 := rfl
theorem mS_mA (h : MH) (kn n : Nat) : mS (mA h kn n) = mS h + n := rfl
theorem ck_true {A : Option (Value × MH)} : ck True A = A := ck_pos trivial
theorem ib_nI {n N : Nat} (h : n < N) (hN : N < 2 ^ 31) : ib (nI n) N := vp_in_nI h hN
theorem ix_nI {n : Nat} (h : n < 2 ^ 31) : ix (nI n) = n := nI_clamp h
/-- truth as an int -/
noncomputable def bI (c : Prop) : Int32 := @ite _ c (Classical.propDecidable c) 1 0
theorem bI_pos {c : Prop} (h : c) : bI c = 1 := if_pos h
theorem bI_neg {c : Prop} (h : ¬ c) : bI c = 0 := if_neg h
theorem bI_0 {c : Prop} : bI c = 0 ↔ ¬ c := by
  by_cases h : c
  · rw [bI_pos h]; exact ⟨fun q => absurd q (by decide), fun q => absurd h q⟩
  · rw [bI_neg h]; exact ⟨fun _ => h, fun _ => rfl⟩
theorem bI_1 {c : Prop} : bI c = 1 ↔ c := by
  by_cases h : c
  · rw [bI_pos h]; exact ⟨fun _ => h, fun _ => rfl⟩
  · rw [bI_neg h]; exact ⟨fun q => absurd q (by decide), fun q => absurd q h⟩
theorem bI_rt {c : Prop} : mrt 1 (bI c) := by
  by_cases h : c
  · rw [bI_pos h]; exact Or.inr rfl
  · rw [bI_neg h]; exact Or.inl rfl
theorem bI_iff {c e : Prop} (h : c ↔ e) : bI c = bI e := by rw [propext h]
theorem if_b {α : Type} {c : Prop} {A B : α} : (if bI c = 0 then A else B) = @ite _ c (Classical.propDecidable c) B A := by
  by_cases h : c
  · rw [if_neg (fun q => bI_0.mp q h), if_pos h]
  · rw [if_pos (bI_0.mpr h), if_neg h]
/-- a counting loop whose state is a function of its counter -/
theorem loop_up {α : Type} {F : Nat → α} {n : Nat} (hs : ∀ i, i < n → F i = F (i + 1)) : ∀ i, i ≤ n → F i = F n := by
  intro i hi
  obtain ⟨k, rfl⟩ : ∃ k, n = i + k := ⟨n - i, by omega⟩
  induction k generalizing i with
  | zero => rfl
  | succ k ih =>
    rw [hs i (by omega)]
    have := ih (i + 1) (fun j hj => hs j (by omega)) (by omega)
    rw [this]
    congr 1
    omega
theorem loop_all {α : Type} {F : Nat → α} {n : Nat} (hs : ∀ i, i < n → F i = F (i + 1)) : F 0 = F n := loop_up hs 0 (Nat.zero_le n)
/-- sums -/
def sumI (f : Nat → Int32) : Nat → Int32
  | 0 => 0
  | n + 1 => sumI f n + f n
theorem sumI_congr {f g : Nat → Int32} {n : Nat} (h : ∀ i, i < n → f i = g i) : sumI f n = sumI g n := by
  induction n with
  | zero => rfl
  | succ n ih => rw [sumI, sumI, ih (fun i hi => h i (by omega)), h n (by omega)]
theorem sumI_add (f g : Nat → Int32) (n : Nat) : sumI (fun i => f i + g i) n = sumI f n + sumI g n := by
  induction n with
  | zero => rfl
  | succ n ih =>
    rw [sumI, sumI, sumI, ih]
    grind
theorem nI_lt' {a b : Nat} (ha : a < 2 ^ 31) (hb : b < 2 ^ 31) : nI a < nI b ↔ a < b := nI_ltI ha hb
/-- within -/
theorem s_within (d : Nat) (h : MH) (v lo hi : Int32) : mE mtab (d + 1) 11 [.int v, .int lo, .int hi] h = some (.int (bI (lo ≤ v ∧ v ≤ hi)), h) := by
  rw [D_X10_within]
  by_cases h1 : v < lo
  · rw [if_pos h1, bI_neg (fun q => absurd q.1 (Int32.not_le.mpr h1))]
  · by_cases h2 : v ≤ hi
    · rw [if_neg h1, if_pos h2, bI_pos ⟨Int32.not_lt.mp h1, h2⟩]
    · rw [if_neg h1, if_neg h2, bI_neg (fun q => h2 q.2)]
theorem s_isIn (d : Nat) (h : MH) (v lo hi : Int32) : mE mtab (d + 1) 14 [.int v, .int lo, .int hi] h = some (.int (bI (lo ≤ v ∧ v ≤ hi)), h) := by
  rw [D_X11_isIn]
  by_cases h1 : v < lo
  · rw [if_pos h1, bI_neg (fun q => absurd q.1 (Int32.not_le.mpr h1))]
  · by_cases h2 : v ≤ hi
    · rw [if_neg h1, if_pos h2, bI_pos ⟨Int32.not_lt.mp h1, h2⟩]
    · rw [if_neg h1, if_neg h2, bI_neg (fun q => h2 q.2)]
theorem s_isPlace (d : Nat) (h : MH) (v : Int32) : mE mtab (d + 2) 15 [.int v] h = some (.int (bI (0 ≤ v ∧ v ≤ 8)), h) := by
  rw [D_X11_isPlace, s_isIn, cI_some, ck_pos bI_rt]
/-- an index below n -/
theorem ib_iff {p : Int32} {n : Nat} (hn : n < 2 ^ 30) : (0 ≤ p ∧ p ≤ nI n - 1) ↔ ib p n := by
  have e1 : (nI n - 1).toInt = (n : Int) - 1 := by
    have := pk_sub_toInt (a := n) (b := 1) (by omega) (by omega)
    exact this
  unfold ib
  rw [vp_in_iff, Int32.le_iff_toInt_le, Int32.le_iff_toInt_le, e1]
  have e0 : (0 : Int32).toInt = 0 := by decide
  rw [e0]
  omega
theorem ib_at {p : Int32} {n : Nat} (h : ib p n) (hn : n < 2 ^ 31) : ∃ j : Nat, j < n ∧ p = nI j := vp_in_of h hn
