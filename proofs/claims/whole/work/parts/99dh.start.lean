/-! TWO PROGRAMS: behind their constructors -/
set_option linter.unusedSectionVars false
def lA : List (Nat × Nat × Nat × Nat) := [(0, 11, 7, 0)] ++ oi8 8 9
def lB : List (Nat × Nat × Nat × Nat) := [(0, 11, 7, 0)] ++ oj8 8 9
def m0 (a : Nat) : Option Nat := if a < 50 then some a else if a < 55 then some (a + 1) else if a = 55 then some 50 else if a < 60 then some a else if a < 63 then none else if a < 67 then some (a - 3) else none
theorem m0_of {a b : Nat} (e : m0 a = some b) : (a < 50 ∧ b = a) ∨ (50 ≤ a ∧ a < 55 ∧ b = a + 1) ∨ (a = 55 ∧ b = 50) ∨ (56 ≤ a ∧ a < 60 ∧ b = a) ∨ (63 ≤ a ∧ a < 67 ∧ b + 3 = a) := by
  unfold m0 at e
  (repeat' (split at e)) <;> first | (cases e; done) | (have e := Option.some.inj e; omega)
/-- writes go to slots below 16 -/
def sm16 (l : List (Nat × Nat × Nat × Nat)) : Bool := l.all fun o => Nat.beq o.1 0 || Nat.blt o.2.2.1 16
theorem rdI_big {a k : Nat} (hk : 16 ≤ k) : ∀ (l : List (Nat × Nat × Nat × Nat)) (m : Nat), sm16 l = true → rdI m l a k 0 = 0 := by
  intro l
  induction l with
  | nil => intro m _; rfl
  | cons o l ih =>
    intro m hn
    unfold sm16 at hn
    rw [List.all_cons, Bool.and_eq_true, Bool.or_eq_true] at hn
    obtain ⟨t, x, y, z⟩ := o
    have hl : sm16 l = true := hn.2
    have hy : ¬ t = 0 → ¬ k = y := fun ht e => by
      rcases hn.1 with q | q
      · exact ht (Nat.eq_of_beq_eq_true q)
      · have : y < 16 := by simpa [Nat.blt_eq] using q
        omega
    match t, hy with
    | 0, _ =>
      show rdI (m + 1) l a k (if a = m then 0 else 0) = 0
      rw [ite_self]
      exact ih _ hl
    | 1, _ => exact ih m hl
    | 2, hy =>
      show rdI m l a k (if a = x ∧ k = y then nI z else 0) = 0
      rw [if_neg (fun q => hy (by decide) q.2)]
      exact ih m hl
    | t + 3, hy =>
      show rdI m l a k (if a = x ∧ k = y then -1 else 0) = 0
      rw [if_neg (fun q => hy (by omega) q.2)]
      exact ih m hl
theorem rdR_big {a k : Nat} (hk : 16 ≤ k) : ∀ (l : List (Nat × Nat × Nat × Nat)) (m : Nat), sm16 l = true → rdR m l a k 0 = 0 := by
  intro l
  induction l with
  | nil => intro m _; rfl
  | cons o l ih =>
    intro m hn
    unfold sm16 at hn
    rw [List.all_cons, Bool.and_eq_true, Bool.or_eq_true] at hn
    obtain ⟨t, x, y, z⟩ := o
    have hl : sm16 l = true := hn.2
    have hy : ¬ t = 0 → ¬ k = y := fun ht e => by
      rcases hn.1 with q | q
      · exact ht (Nat.eq_of_beq_eq_true q)
      · have : y < 16 := by simpa [Nat.blt_eq] using q
        omega
    match t, hy with
    | 0, _ =>
      show rdR (m + 1) l a k (if a = m then 0 else 0) = 0
      rw [ite_self]
      exact ih _ hl
    | 1, hy =>
      show rdR m l a k (if a = x ∧ k = y then z else 0) = 0
      rw [if_neg (fun q => hy (by decide) q.2)]
      exact ih m hl
    | 2, _ => exact ih m hl
    | t + 3, _ => exact ih m hl
/-- no write goes to a given cell, none is made there -/
def lo8 (l : List (Nat × Nat × Nat × Nat)) : Bool := l.all fun o => Nat.beq o.1 0 || Nat.blt 7 o.2.1
theorem rdI_lo {a k : Nat} (ha : a < 8) : ∀ (l : List (Nat × Nat × Nat × Nat)) (m : Nat) (v : Int32), 8 ≤ m → lo8 l = true → rdI m l a k v = v := by
  intro l
  induction l with
  | nil => intro m v _ _; rfl
  | cons o l ih =>
    intro m v hm hn
    unfold lo8 at hn
    rw [List.all_cons, Bool.and_eq_true, Bool.or_eq_true] at hn
    obtain ⟨t, x, y, z⟩ := o
    have hl : lo8 l = true := hn.2
    have hy : ¬ t = 0 → ¬ a = x := fun ht e => by
      rcases hn.1 with q | q
      · exact ht (Nat.eq_of_beq_eq_true q)
      · have : 7 < x := by simpa [Nat.blt_eq] using q
        omega
    match t, hy with
    | 0, _ =>
      show rdI (m + 1) l a k (if a = m then 0 else v) = v
      rw [if_neg (by omega)]
      exact ih _ _ (by omega) hl
    | 1, _ => exact ih m v hm hl
    | 2, hy =>
      show rdI m l a k (if a = x ∧ k = y then nI z else v) = v
      rw [if_neg (fun q => hy (by decide) q.1)]
      exact ih m v hm hl
    | t + 3, hy =>
      show rdI m l a k (if a = x ∧ k = y then -1 else v) = v
      rw [if_neg (fun q => hy (by omega) q.1)]
      exact ih m v hm hl
theorem rdR_lo {a k : Nat} (ha : a < 8) : ∀ (l : List (Nat × Nat × Nat × Nat)) (m : Nat) (v : Nat), 8 ≤ m → lo8 l = true → rdR m l a k v = v := by
  intro l
  induction l with
  | nil => intro m v _ _; rfl
  | cons o l ih =>
    intro m v hm hn
    unfold lo8 at hn
    rw [List.all_cons, Bool.and_eq_true, Bool.or_eq_true] at hn
    obtain ⟨t, x, y, z⟩ := o
    have hl : lo8 l = true := hn.2
    have hy : ¬ t = 0 → ¬ a = x := fun ht e => by
      rcases hn.1 with q | q
      · exact ht (Nat.eq_of_beq_eq_true q)
      · have : 7 < x := by simpa [Nat.blt_eq] using q
        omega
    match t, hy with
    | 0, _ =>
      show rdR (m + 1) l a k (if a = m then 0 else v) = v
      rw [if_neg (by omega)]
      exact ih _ _ (by omega) hl
    | 1, hy =>
      show rdR m l a k (if a = x ∧ k = y then z else v) = v
      rw [if_neg (fun q => hy (by decide) q.1)]
      exact ih m v hm hl
    | 2, _ => exact ih m v hm hl
    | t + 3, _ => exact ih m v hm hl
theorem alL_lo {a : Nat} (ha : a < 8) : ∀ (l : List (Nat × Nat × Nat × Nat)) (m : Nat), 8 ≤ m → alL m l a = none := by
  intro l
  induction l with
  | nil => intro m _; rfl
  | cons o l ih =>
    intro m hm
    obtain ⟨t, x, y, z⟩ := o
    match t with
    | 0 =>
      show (if a = m then some (x, y) else alL (m + 1) l a) = none
      rw [if_neg (by omega)]
      exact ih _ (by omega)
    | 1 => exact ih m hm
    | 2 => exact ih m hm
    | _ + 3 => exact ih m hm
theorem gL_ops {h : MH} (hz : ∀ a k, gL h a k = 0) : ∀ (l : List (Nat × Nat × Nat × Nat)) (a k : Nat), gL (opsH h l) a k = 0 := by
  intro l
  induction l generalizing h with
  | nil => exact hz
  | cons o l ih =>
    obtain ⟨t, x, y, z⟩ := o
    refine ih (h := opH h (t, x, y, z)) fun a k => ?_
    match t with
    | 0 =>
      show gL (mA h x y) a k = 0
      rw [gL_mA]
      split
      · rfl
      · exact hz a k
    | 1 => exact hz a k
    | 2 => exact hz a k
    | _ + 3 => exact hz a k
/-- what is done to one cell -/
def prj : Nat → List (Nat × Nat × Nat × Nat) → Nat → List (Nat × Nat × Nat)
  | _, [], _ => []
  | m, o :: l, a => match o.1 with
    | 0 => if a = m then (0, 0, 0) :: prj (m + 1) l a else prj (m + 1) l a
    | t + 1 => if a = o.2.1 then (t + 1, o.2.2.1, o.2.2.2) :: prj m l a else prj m l a
def evI : List (Nat × Nat × Nat) → Nat → Int32 → Int32
  | [], _, v => v
  | o :: l, k, v => match o.1 with
    | 0 => evI l k 0
    | 1 => evI l k v
    | 2 => evI l k (if k = o.2.1 then nI o.2.2 else v)
    | _ => evI l k (if k = o.2.1 then -1 else v)
def evR : List (Nat × Nat × Nat) → Nat → Nat → Nat
  | [], _, v => v
  | o :: l, k, v => match o.1 with
    | 0 => evR l k 0
    | 1 => evR l k (if k = o.2.1 then o.2.2 else v)
    | _ => evR l k v
theorem rdI_prj {a k : Nat} : ∀ (l : List (Nat × Nat × Nat × Nat)) (m : Nat) (v : Int32), rdI m l a k v = evI (prj m l a) k v := by
  intro l
  induction l with
  | nil => intro m v; rfl
  | cons o l ih =>
    intro m v
    obtain ⟨t, x, y, z⟩ := o
    match t with
    | 0 =>
      show rdI (m + 1) l a k (if a = m then 0 else v) = evI (if a = m then (0, 0, 0) :: prj (m + 1) l a else prj (m + 1) l a) k v
      by_cases c : a = m
      · rw [if_pos c, if_pos c]; exact ih (m + 1) 0
      · rw [if_neg c, if_neg c]; exact ih (m + 1) v
    | 1 =>
      show rdI m l a k v = evI (if a = x then (1, y, z) :: prj m l a else prj m l a) k v
      by_cases c : a = x
      · rw [if_pos c]; exact ih m v
      · rw [if_neg c]; exact ih m v
    | 2 =>
      show rdI m l a k (if a = x ∧ k = y then nI z else v) = evI (if a = x then (2, y, z) :: prj m l a else prj m l a) k v
      by_cases c : a = x
      · rw [if_pos c, ih]
        show _ = evI (prj m l a) k (if k = y then nI z else v)
        by_cases c2 : k = y
        · rw [if_pos ⟨c, c2⟩, if_pos c2]
        · rw [if_neg (fun q => c2 q.2), if_neg c2]
      · rw [if_neg c, if_neg (fun q => c q.1)]; exact ih m v
    | t + 3 =>
      show rdI m l a k (if a = x ∧ k = y then -1 else v) = evI (if a = x then (t + 3, y, z) :: prj m l a else prj m l a) k v
      by_cases c : a = x
      · rw [if_pos c, ih]
        show _ = evI (prj m l a) k (if k = y then -1 else v)
        by_cases c2 : k = y
        · rw [if_pos ⟨c, c2⟩, if_pos c2]
        · rw [if_neg (fun q => c2 q.2), if_neg c2]
      · rw [if_neg c, if_neg (fun q => c q.1)]; exact ih m v
theorem rdR_prj {a k : Nat} : ∀ (l : List (Nat × Nat × Nat × Nat)) (m : Nat) (v : Nat), rdR m l a k v = evR (prj m l a) k v := by
  intro l
  induction l with
  | nil => intro m v; rfl
  | cons o l ih =>
    intro m v
    obtain ⟨t, x, y, z⟩ := o
    match t with
    | 0 =>
      show rdR (m + 1) l a k (if a = m then 0 else v) = evR (if a = m then (0, 0, 0) :: prj (m + 1) l a else prj (m + 1) l a) k v
      by_cases c : a = m
      · rw [if_pos c, if_pos c]; exact ih (m + 1) 0
      · rw [if_neg c, if_neg c]; exact ih (m + 1) v
    | 1 =>
      show rdR m l a k (if a = x ∧ k = y then z else v) = evR (if a = x then (1, y, z) :: prj m l a else prj m l a) k v
      by_cases c : a = x
      · rw [if_pos c, ih]
        show _ = evR (prj m l a) k (if k = y then z else v)
        by_cases c2 : k = y
        · rw [if_pos ⟨c, c2⟩, if_pos c2]
        · rw [if_neg (fun q => c2 q.2), if_neg c2]
      · rw [if_neg c, if_neg (fun q => c q.1)]; exact ih m v
    | 2 =>
      show rdR m l a k v = evR (if a = x then (2, y, z) :: prj m l a else prj m l a) k v
      by_cases c : a = x
      · rw [if_pos c]; exact ih m v
      · rw [if_neg c]; exact ih m v
    | t + 3 =>
      show rdR m l a k v = evR (if a = x then (t + 3, y, z) :: prj m l a else prj m l a) k v
      by_cases c : a = x
      · rw [if_pos c]; exact ih m v
      · rw [if_neg c]; exact ih m v
def evA (a : Nat) : List (Nat × Nat × Nat) := match a with
  | 8 => [(0, 0, 0), (1, 0, 9), (1, 1, 26), (1, 2, 43), (1, 3, 50), (1, 4, 55), (1, 5, 60), (1, 6, 63)]
  | 9 => [(0, 0, 0), (1, 0, 10), (1, 1, 17), (1, 2, 19), (1, 3, 23), (2, 4, 0), (3, 5, 0), (1, 6, 24), (1, 7, 25), (2, 8, 0)]
  | 10 => [(0, 0, 0), (2, 0, 0), (1, 1, 11), (1, 2, 12), (1, 3, 13), (1, 4, 14), (2, 5, 0), (2, 6, 349), (1, 7, 15), (2, 8, 0), (1, 9, 0), (1, 10, 16)]
  | 11 => [(0, 0, 0)]
  | 12 => [(0, 0, 0)]
  | 13 => [(0, 0, 0)]
  | 14 => [(0, 0, 0)]
  | 15 => [(0, 0, 0)]
  | 16 => [(0, 0, 0)]
  | 17 => [(0, 0, 0), (1, 0, 18), (2, 1, 0), (2, 2, 0)]
  | 18 => [(0, 0, 0)]
  | 19 => [(0, 0, 0), (1, 0, 20), (1, 1, 21), (1, 2, 22), (2, 3, 0)]
  | 20 => [(0, 0, 0)]
  | 21 => [(0, 0, 0)]
  | 22 => [(0, 0, 0)]
  | 23 => [(0, 0, 0)]
  | 24 => [(0, 0, 0)]
  | 25 => [(0, 0, 0)]
  | 26 => [(0, 0, 0), (1, 0, 27), (1, 1, 34), (1, 2, 36), (1, 3, 40), (2, 4, 0), (3, 5, 0), (1, 6, 41), (1, 7, 42), (2, 8, 0)]
  | 27 => [(0, 0, 0), (2, 0, 0), (1, 1, 28), (1, 2, 29), (1, 3, 30), (1, 4, 31), (2, 5, 0), (2, 6, 349), (1, 7, 32), (2, 8, 0), (1, 9, 0), (1, 10, 33)]
  | 28 => [(0, 0, 0)]
  | 29 => [(0, 0, 0)]
  | 30 => [(0, 0, 0)]
  | 31 => [(0, 0, 0)]
  | 32 => [(0, 0, 0)]
  | 33 => [(0, 0, 0)]
  | 34 => [(0, 0, 0), (1, 0, 35), (2, 1, 0), (2, 2, 0)]
  | 35 => [(0, 0, 0)]
  | 36 => [(0, 0, 0), (1, 0, 37), (1, 1, 38), (1, 2, 39), (2, 3, 0)]
  | 37 => [(0, 0, 0)]
  | 38 => [(0, 0, 0)]
  | 39 => [(0, 0, 0)]
  | 40 => [(0, 0, 0)]
  | 41 => [(0, 0, 0)]
  | 42 => [(0, 0, 0)]
  | 43 => [(0, 0, 0), (2, 0, 0), (1, 1, 44), (1, 2, 45), (1, 3, 46), (1, 4, 47), (2, 5, 0), (2, 6, 349), (1, 7, 48), (2, 8, 0), (1, 9, 0), (1, 10, 49)]
  | 44 => [(0, 0, 0)]
  | 45 => [(0, 0, 0)]
  | 46 => [(0, 0, 0)]
  | 47 => [(0, 0, 0)]
  | 48 => [(0, 0, 0)]
  | 49 => [(0, 0, 0)]
  | 50 => [(0, 0, 0), (1, 0, 51), (2, 1, 0), (1, 2, 52), (1, 3, 53), (1, 4, 54), (2, 5, 0)]
  | 51 => [(0, 0, 0)]
  | 52 => [(0, 0, 0)]
  | 53 => [(0, 0, 0)]
  | 54 => [(0, 0, 0)]
  | 55 => [(0, 0, 0), (1, 1, 56), (1, 2, 57), (1, 3, 58), (1, 4, 59), (2, 5, 0), (2, 6, 0), (2, 7, 0), (2, 8, 0), (1, 9, 0), (1, 10, 0), (3, 11, 0), (3, 12, 0), (1, 0, 50)]
  | 56 => [(0, 0, 0)]
  | 57 => [(0, 0, 0)]
  | 58 => [(0, 0, 0)]
  | 59 => [(0, 0, 0)]
  | 60 => [(0, 0, 0), (1, 0, 61), (1, 1, 62), (2, 2, 0), (3, 3, 0)]
  | 61 => [(0, 0, 0)]
  | 62 => [(0, 0, 0)]
  | 63 => [(0, 0, 0), (1, 0, 64), (1, 1, 65), (1, 2, 66), (2, 3, 0), (2, 4, 0)]
  | 64 => [(0, 0, 0)]
  | 65 => [(0, 0, 0)]
  | 66 => [(0, 0, 0)]
  | _ => []
def evB (a : Nat) : List (Nat × Nat × Nat) := match a with
  | 8 => [(0, 0, 0), (1, 0, 9), (1, 1, 26), (1, 2, 43), (1, 3, 50), (1, 4, 51), (1, 5, 60), (1, 6, 0)]
  | 9 => [(0, 0, 0), (1, 0, 10), (1, 1, 17), (1, 2, 19), (1, 3, 23), (2, 4, 0), (3, 5, 0), (1, 6, 24), (1, 7, 25), (2, 8, 0)]
  | 10 => [(0, 0, 0), (2, 0, 0), (1, 1, 11), (1, 2, 12), (1, 3, 13), (1, 4, 14), (2, 5, 0), (2, 6, 349), (1, 7, 15), (2, 8, 0), (1, 9, 0), (1, 10, 16)]
  | 11 => [(0, 0, 0)]
  | 12 => [(0, 0, 0)]
  | 13 => [(0, 0, 0)]
  | 14 => [(0, 0, 0)]
  | 15 => [(0, 0, 0)]
  | 16 => [(0, 0, 0)]
  | 17 => [(0, 0, 0), (1, 0, 18), (2, 1, 0), (2, 2, 0)]
  | 18 => [(0, 0, 0)]
  | 19 => [(0, 0, 0), (1, 0, 20), (1, 1, 21), (1, 2, 22), (2, 3, 0)]
  | 20 => [(0, 0, 0)]
  | 21 => [(0, 0, 0)]
  | 22 => [(0, 0, 0)]
  | 23 => [(0, 0, 0)]
  | 24 => [(0, 0, 0)]
  | 25 => [(0, 0, 0)]
  | 26 => [(0, 0, 0), (1, 0, 27), (1, 1, 34), (1, 2, 36), (1, 3, 40), (2, 4, 0), (3, 5, 0), (1, 6, 41), (1, 7, 42), (2, 8, 0)]
  | 27 => [(0, 0, 0), (2, 0, 0), (1, 1, 28), (1, 2, 29), (1, 3, 30), (1, 4, 31), (2, 5, 0), (2, 6, 349), (1, 7, 32), (2, 8, 0), (1, 9, 0), (1, 10, 33)]
  | 28 => [(0, 0, 0)]
  | 29 => [(0, 0, 0)]
  | 30 => [(0, 0, 0)]
  | 31 => [(0, 0, 0)]
  | 32 => [(0, 0, 0)]
  | 33 => [(0, 0, 0)]
  | 34 => [(0, 0, 0), (1, 0, 35), (2, 1, 0), (2, 2, 0)]
  | 35 => [(0, 0, 0)]
  | 36 => [(0, 0, 0), (1, 0, 37), (1, 1, 38), (1, 2, 39), (2, 3, 0)]
  | 37 => [(0, 0, 0)]
  | 38 => [(0, 0, 0)]
  | 39 => [(0, 0, 0)]
  | 40 => [(0, 0, 0)]
  | 41 => [(0, 0, 0)]
  | 42 => [(0, 0, 0)]
  | 43 => [(0, 0, 0), (2, 0, 0), (1, 1, 44), (1, 2, 45), (1, 3, 46), (1, 4, 47), (2, 5, 0), (2, 6, 349), (1, 7, 48), (2, 8, 0), (1, 9, 0), (1, 10, 49)]
  | 44 => [(0, 0, 0)]
  | 45 => [(0, 0, 0)]
  | 46 => [(0, 0, 0)]
  | 47 => [(0, 0, 0)]
  | 48 => [(0, 0, 0)]
  | 49 => [(0, 0, 0)]
  | 50 => [(0, 0, 0), (1, 0, 51), (1, 1, 56), (1, 2, 57), (1, 3, 58), (1, 4, 59), (2, 5, 0), (2, 6, 0), (2, 7, 0), (2, 8, 0), (1, 9, 0), (1, 10, 0), (3, 11, 0), (3, 12, 0)]
  | 51 => [(0, 0, 0), (1, 0, 52), (2, 1, 0), (1, 2, 53), (1, 3, 54), (1, 4, 55), (2, 5, 0)]
  | 52 => [(0, 0, 0)]
  | 53 => [(0, 0, 0)]
  | 54 => [(0, 0, 0)]
  | 55 => [(0, 0, 0)]
  | 56 => [(0, 0, 0)]
  | 57 => [(0, 0, 0)]
  | 58 => [(0, 0, 0)]
  | 59 => [(0, 0, 0)]
  | 60 => [(0, 0, 0), (1, 0, 61), (1, 1, 62), (1, 2, 63), (2, 3, 0), (2, 4, 0)]
  | 61 => [(0, 0, 0)]
  | 62 => [(0, 0, 0)]
  | 63 => [(0, 0, 0)]
  | _ => []
set_option maxRecDepth 100000 in
theorem pA : ∀ a, a < 67 → 8 ≤ a → prj 8 lA a = evA a := by decide +kernel
set_option maxRecDepth 100000 in
theorem pB : ∀ a, a < 64 → 8 ≤ a → prj 8 lB a = evB a := by decide +kernel
def kA (a : Nat) : Nat := ((alL 8 lA a).getD (0, 0)).1
def cB (a : Nat) : Bool := match m0 a with
  | none => true
  | some b => decide (alL 8 lA a = alL 8 lB b) && (alL 8 lA a).isSome && (decide (kA a = 11) == decide (a = 8))
def cC (a : Nat) : Bool := match m0 a with
  | none => true
  | some b => (List.range 16).all fun k => decide (evI (evA a) k 0 = evI (evB b) k 0) && (decide (a = 8 ∧ k = 5) || decide (m0 (evR (evA a) k 0) = some (evR (evB b) (if a = 8 then tsl k else k) 0)))
set_option maxRecDepth 100000 in
theorem cB_all : ∀ a, a < 67 → 8 ≤ a → cB a = true := by decide +kernel
set_option maxRecDepth 100000 in
theorem cC_all : ∀ a, a < 67 → 8 ≤ a → cC a = true := by decide +kernel
set_option maxRecDepth 100000 in
theorem c_l : (sm16 lA = true ∧ sm16 lB = true ∧ lo8 lA = true ∧ lo8 lB = true) ∧ (cnA lA = 59 ∧ cnA lB = 56 ∧ smL lB + 13126 = smL lA) ∧ rdR 8 lA 8 5 0 = 60 ∧ rdR 8 lB 8 6 0 = 0 := by decide +kernel
set_option maxRecDepth 100000 in
theorem c_f : alL 8 lA 8 = some (11, 7) ∧ alL 8 lA 60 = some (6, 4) ∧ alL 8 lA 61 = some (20, 6561) ∧ alL 8 lA 62 = some (20, 6561) := by decide +kernel
theorem c_g : (∀ k, k < 16 → evI (evA 60) k 0 = if k = 3 then -1 else 0) ∧ (∀ k, k < 16 → evR (evA 60) k 0 = if k = 0 then 61 else if k = 1 then 62 else 0) ∧ (∀ k, k < 16 → evI (evA 61) k 0 = 0 ∧ evI (evA 62) k 0 = 0 ∧ evR (evA 61) k 0 = 0 ∧ evR (evA 62) k 0 = 0) := by decide +kernel
theorem x0_hi {a : Nat} (ha : 8 ≤ a) (L : Nat) (xs : Nat → Int32) (k : Nat) : x0v xs a k = 0 ∧ x0r a k = 0 := by
  constructor
  · unfold x0v
    split <;> first | omega | rfl
  · unfold x0r
    split <;> first | omega | rfl
section BG
variable (L : Nat) (xs : Nat → Int32)
theorem b_al (l : List (Nat × Nat × Nat × Nat)) (a : Nat) : (kd (opsH (mh0 L xs) l) a, ln (opsH (mh0 L xs) l) a) = (alL 8 l a).getD (x0k a, x0l L a) := al_ops a l (mh0 L xs)
theorem b_some {l : List (Nat × Nat × Nat × Nat)} {a : Nat} {p : Nat × Nat} (e : alL 8 l a = some p) : kd (opsH (mh0 L xs) l) a = p.1 ∧ ln (opsH (mh0 L xs) l) a = p.2 := by
  have q := b_al L xs l a
  rw [e] at q
  exact ⟨congrArg Prod.fst q, congrArg Prod.snd q⟩
theorem b_I (l : List (Nat × Nat × Nat × Nat)) {a : Nat} (ha : 8 ≤ a) (k : Nat) : gI (opsH (mh0 L xs) l) a k = rdI 8 l a k 0 := by
  rw [rd_I, show gI (mh0 L xs) a k = 0 from (x0_hi ha L xs k).1]
  rfl
theorem b_R (l : List (Nat × Nat × Nat × Nat)) {a : Nat} (ha : 8 ≤ a) (k : Nat) : gR (opsH (mh0 L xs) l) a k = rdR 8 l a k 0 := by
  rw [rd_R, show gR (mh0 L xs) a k = 0 from (x0_hi ha L xs k).2]
  rfl
theorem b_L (l : List (Nat × Nat × Nat × Nat)) (a k : Nat) : gL (opsH (mh0 L xs) l) a k = 0 := gL_ops (h := mh0 L xs) (fun _ _ => rfl) l a k
theorem b_RC {a b : Nat} (e : m0 a = some b) : RCe m0 (opsH (mh0 L xs) lA) (opsH (mh0 L xs) lB) a b := by
  obtain ⟨⟨s1, s2, s3, s4⟩, -, -⟩ := c_l
  have hL : gL (opsH (mh0 L xs) lB) b = gL (opsH (mh0 L xs) lA) a := by funext k; rw [b_L, b_L]
  have ho := m0_of e
  rcases Nat.lt_or_ge a 8 with ha | ha
  · have hb : b = a := by omega
    subst hb
    have q1 := b_al L xs lA b
    have q2 := b_al L xs lB b
    rw [alL_lo ha lA 8 (Nat.le_refl _)] at q1
    rw [alL_lo ha lB 8 (Nat.le_refl _)] at q2
    have q := q2.trans q1.symm
    have k1 : kd (opsH (mh0 L xs) lA) b = x0k b := congrArg Prod.fst q1
    have n11 : ¬ x0k b = 11 := by unfold x0k; split <;> decide
    refine ⟨⟨congrArg Prod.fst q, congrArg Prod.snd q⟩, ⟨?_, hL⟩, fun k _ => ?_, fun z => absurd (k1.symm.trans z) n11⟩
    · funext k
      rw [rd_I, rd_I, show mN (mh0 L xs) = 8 from rfl, rdI_lo ha lA _ _ (Nat.le_refl _) s3, rdI_lo ha lB _ _ (Nat.le_refl _) s4]
    · rw [k1, sl_ne n11, rd_R, rd_R, show mN (mh0 L xs) = 8 from rfl, rdR_lo ha lA _ _ (Nat.le_refl _) s3, rdR_lo ha lB _ _ (Nat.le_refl _) s4]
      have h8 : gR (mh0 L xs) b k < 8 := by
        show x0r b k < 8
        unfold x0r
        split
        · show 6 < 8; decide
        · show 7 < 8; decide
        · show 0 < 8; decide
      unfold m0
      rw [if_pos (by omega)]
  · have hb : 8 ≤ b := by omega
    have hb' : b < 64 := by omega
    have hc := cB_all a (by omega) ha
    have hc' := cC_all a (by omega) ha
    unfold cB at hc
    unfold cC at hc'
    rw [e] at hc hc'
    simp only [Bool.and_eq_true, decide_eq_true_eq, List.all_eq_true, List.mem_range, Bool.or_eq_true, beq_iff_eq, decide_eq_decide] at hc hc'
    obtain ⟨⟨h1, h2⟩, h3⟩ := hc
    obtain ⟨p, hp⟩ := Option.isSome_iff_exists.mp h2
    have pA' := b_some L xs hp
    have pB' := b_some L xs (h1.symm.trans hp)
    have hk : kd (opsH (mh0 L xs) lA) a = kA a := by unfold kA; rw [hp]; exact pA'.1
    refine ⟨⟨pB'.1.trans pA'.1.symm, pB'.2.trans pA'.2.symm⟩, ⟨?_, hL⟩, fun k nk => ?_, fun z => h3.mp (hk.symm.trans z)⟩
    · funext k
      rw [b_I L xs lA ha, b_I L xs lB hb]
      rcases Nat.lt_or_ge k 16 with c | c
      · rw [rdI_prj, rdI_prj, pA a (by omega) ha, pB b hb' hb]
        exact ((hc' k c).1).symm
      · rw [rdI_big c lA 8 s1, rdI_big c lB 8 s2]
    · rw [hk] at nk ⊢
      have hs' : sl (kA a) k = if a = 8 then tsl k else k := by
        unfold sl
        by_cases z : kA a = 11
        · rw [if_pos z, if_pos (h3.mp z)]
        · rw [if_neg z, if_neg (fun w => z (h3.mpr w))]
      rw [b_R L xs lA ha, b_R L xs lB hb, hs']
      rcases Nat.lt_or_ge k 16 with c | c
      · rw [rdR_prj, rdR_prj, pA a (by omega) ha, pB b hb' hb]
        exact (hc' k c).2.resolve_left (fun w => nk ⟨h3.mpr w.1, w.2⟩)
      · have hs : (if a = 8 then tsl k else k) = k := by
          unfold tsl
          split
          · split <;> first | omega | rfl
          · rfl
        rw [hs, rdR_big c lA 8 s1, rdR_big c lB 8 s2]
        rfl
theorem b_SS : SS m0 (opsH (mh0 L xs) lA) (opsH (mh0 L xs) lB) := by
  obtain ⟨⟨s1, s2, s3, s4⟩, ⟨n1, n2, n3⟩, r1, r2⟩ := c_l
  obtain ⟨f1, f2, f3, f4⟩ := c_f
  obtain ⟨f5, f6, f7⟩ := c_g
  have nA : mN (opsH (mh0 L xs) lA) = 67 := by rw [mN_ops, n1]; rfl
  have nB : mN (opsH (mh0 L xs) lB) = 64 := by rw [mN_ops, n2]; rfl
  refine ⟨⟨fun a ha => by unfold m0; rw [if_pos (by omega)], fun a b e => ⟨⟨?_, ?_⟩, b_RC L xs e⟩, fun a c b e1 e2 => ?_⟩, ⟨rfl, (b_some L xs f1).1, ?_, by rw [nA]; decide⟩, Or.inl ⟨?_, ⟨rfl, rfl, rfl⟩, ⟨⟨b_some L xs f2, fun k => ?_, fun k => b_L L xs lA 60 k, fun k => ?_⟩, fun a ha => ⟨?_, fun k => ?_, fun k => b_L L xs lA a k, fun k => ?_⟩⟩, by rw [nA, nB], ?_⟩⟩
  · have := m0_of e
    rw [nA]; omega
  · have := m0_of e
    rw [nB]; omega
  · have := m0_of e1
    have := m0_of e2
    omega
  · rw [b_R L xs lA (by decide)]; exact r1
  · rw [b_R L xs lB (by decide)]; exact r2
  · rw [b_I L xs lA (by decide)]
    rcases Nat.lt_or_ge k 16 with c | c
    · rw [rdI_prj, pA 60 (by decide) (by decide)]; exact f5 k c
    · rw [rdI_big c lA 8 s1, if_neg (by omega)]
  · rw [b_R L xs lA (by decide)]
    rcases Nat.lt_or_ge k 16 with c | c
    · rw [rdR_prj, pA 60 (by decide) (by decide)]; exact f6 k c
    · rw [rdR_big c lA 8 s1, if_neg (by omega), if_neg (by omega)]
  · rcases ha with rfl | rfl
    · exact b_some L xs f3
    · exact b_some L xs f4
  · rw [b_I L xs lA (by omega)]
    rcases Nat.lt_or_ge k 16 with c | c
    · rcases ha with rfl | rfl
      · rw [rdI_prj, pA 61 (by decide) (by decide)]; exact (f7 k c).1
      · rw [rdI_prj, pA 62 (by decide) (by decide)]; exact (f7 k c).2.1
    · exact rdI_big c lA 8 s1
  · rw [b_R L xs lA (by omega)]
    rcases Nat.lt_or_ge k 16 with c | c
    · rcases ha with rfl | rfl
      · rw [rdR_prj, pA 61 (by decide) (by decide)]; exact (f7 k c).2.2.1
      · rw [rdR_prj, pA 62 (by decide) (by decide)]; exact (f7 k c).2.2.2
    · exact rdR_big c lA 8 s1
  · rw [mS_ops, mS_ops, ← n3]
    omega
end BG
