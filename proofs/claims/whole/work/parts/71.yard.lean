--deps:19.lay
/-! THE YARD: the reference's reading of a sum as a pure machine; what one part of the grammar does there -/
set_option linter.unusedSectionVars false
def rk (k : Nat) : Nat := if 40 ≤ k then 0 else if k = 22 then 1 else if k = 21 then 2 else if k = 20 then 3 else if 10 ≤ k then 4 else if 8 ≤ k then 6 else if 6 ≤ k then 5 else 7
def stel (l : Nat) : List Nat → Nat → List (Nat × Nat) → List Nat × Nat × List (Nat × Nat)
  | [], o, c => ([], o, c)
  | k :: π, o, c => if l ≤ rk k then stel l π (if rk k = 7 ∨ k = 20 then o - 1 else o) (c ++ [(k, 0)]) else (k :: π, o, c)
def opw : List Nat → Nat
  | [] => 0
  | k :: π => if 40 ≤ k then k else opw π
def cmpd : List Nat → Bool
  | [] => false
  | k :: π => if 4 < rk k then cmpd π else decide (rk k = 4)
def aah (π : List Nat) : Prop := opw π = 41 ∧ rk (π.headD 0) ≤ 3
def hdl (l : Nat) (π : List Nat) : Prop := ∀ k, π.head? = some k → rk k < l
def cmpO (t : Nat) : Nat := if t = 60 then 10 else if t = 256 then 11 else if t = 62 then 12 else if t = 257 then 13 else if t = 61 then 14 else if t = 35 then 15 else 0
def bt (π : List Nat) (t : Nat) : Nat := if t = 43 then 6 else if t = 45 then 7 else if t = 42 then 8 else if t = 47 then 9 else if opw π = 41 then (if cmpd π = true then (if t = 322 then 21 else if t = 321 then 22 else 0) else cmpO t) else 0
def pt (π : List Nat) (t : Nat) : Nat := if opw π = 40 then (if t = 41 then 1 else 0) else if opw π = 41 then (if t = 318 ∧ cmpd π = true then 42 else 0) else if opw π = 42 then (if t = 319 then 43 else 0) else if opw π = 43 then (if t = 320 then 1 else 0) else 0
def uo (t : Nat) : Nat := if t = 40 then 40 else if t = 45 then 5 else if t = 315 then 4 else if t = 316 then 2 else if t = 317 then 41 else 0
/-- the pile, how many are open, is a one behind us, the token, what is written -/
abbrev YS : Type := List Nat × Nat × Bool × Nat × List (Nat × Nat)
def fin7 (π : List Nat) (o : Nat) (c : List (Nat × Nat)) (q : Nat) : YS := ((stel 7 π o c).1, (stel 7 π o c).2.1, true, q, (stel 7 π o c).2.2)
noncomputable def ynx (tk tv : Nat → Nat) (sl : Bool) (s : YS) : YS ⊕ Nat :=
  if s.2.2.1 = true then
    if bt s.1 (tk s.2.2.2.1) = 0 then
      if pt s.1 (tk s.2.2.2.1) = 0 then .inr (if opw s.1 = 0 then 0 else 1)
      else if pt s.1 (tk s.2.2.2.1) = 1 then .inl (fin7 (stel 1 s.1 s.2.1 s.2.2.2.2).1.tail ((stel 1 s.1 s.2.1 s.2.2.2.2).2.1 - 1) ((stel 1 s.1 s.2.1 s.2.2.2.2).2.2 ++ (if opw s.1 = 43 then [(3, 0)] else [])) (s.2.2.2.1 + 1))
      else .inl (pt s.1 (tk s.2.2.2.1) :: (stel 1 s.1 s.2.1 s.2.2.2.2).1.tail, (stel 1 s.1 s.2.1 s.2.2.2.2).2.1, false, s.2.2.2.1 + 1, (stel 1 s.1 s.2.1 s.2.2.2.2).2.2)
    else .inl (bt s.1 (tk s.2.2.2.1) :: (stel (if rk (bt s.1 (tk s.2.2.2.1)) = 4 then 5 else rk (bt s.1 (tk s.2.2.2.1))) s.1 s.2.1 s.2.2.2.2).1, (stel (if rk (bt s.1 (tk s.2.2.2.1)) = 4 then 5 else rk (bt s.1 (tk s.2.2.2.1))) s.1 s.2.1 s.2.2.2.2).2.1, false, s.2.2.2.1 + 1, (stel (if rk (bt s.1 (tk s.2.2.2.1)) = 4 then 5 else rk (bt s.1 (tk s.2.2.2.1))) s.1 s.2.1 s.2.2.2.2).2.2)
  else if tk s.2.2.2.1 = 258 then
    if tv s.2.2.2.1 ≤ 9999 then .inl (fin7 s.1 s.2.1 (s.2.2.2.2 ++ [(0, tv s.2.2.2.1)]) (s.2.2.2.1 + 1)) else .inr 2
  else if 307 ≤ tk s.2.2.2.1 ∧ tk s.2.2.2.1 ≤ 313 then
    if tk s.2.2.2.1 < 311 ∨ sl = true then .inl (fin7 s.1 s.2.1 (s.2.2.2.2 ++ [(1, tk s.2.2.2.1 - 307)]) (s.2.2.2.1 + 1)) else .inr 5
  else if ¬ uo (tk s.2.2.2.1) = 0 then
    if 8 ≤ s.2.1 then .inr 3 else .inl (uo (tk s.2.2.2.1) :: s.1, s.2.1 + 1, false, s.2.2.2.1 + 1, s.2.2.2.2)
  else @ite _ (tk s.2.2.2.1 = 323 ∧ aah s.1) (mcD _)
    (if 8 ≤ s.2.1 then .inr 3 else .inl (20 :: s.1, s.2.1 + 1, false, s.2.2.2.1 + 1, s.2.2.2.2)) (.inr 1)
def Yn (tk tv : Nat → Nat) (sl : Bool) : Nat → YS → YS → Prop
  | 0, s, s' => s = s' ∧ s.1.length ≤ 60
  | n + 1, s, s' => s.1.length ≤ 60 ∧ ∃ s1, ynx tk tv sl s = .inl s1 ∧ Yn tk tv sl n s1 s'
def Yr (tk tv : Nat → Nat) (sl : Bool) (s s' : YS) : Prop := ∃ n, Yn tk tv sl n s s'
def tz (k : Nat) : Nat × Nat := (k, 0)
def cnt (P : List Nat) : Nat := (P.filter fun k => decide (rk k = 7 ∨ k = 20)).length
theorem stl_app {l : Nat} {π : List Nat} : ∀ {P : List Nat} {o : Nat} {c : List (Nat × Nat)}, (∀ k, k ∈ P → l ≤ rk k) → stel l (P ++ π) (o + cnt P) c = stel l π o (c ++ P.map tz) := by
  intro P
  induction P with
  | nil => intro o c _; simp [cnt]
  | cons k P ih =>
    intro o c h
    have hk : l ≤ rk k := h k (List.mem_cons_self)
    have hP : ∀ j, j ∈ P → l ≤ rk j := fun j hj => h j (List.mem_cons_of_mem _ hj)
    show stel l (k :: (P ++ π)) (o + cnt (k :: P)) c = _
    rw [stel, if_pos hk]
    by_cases e : rk k = 7 ∨ k = 20
    · have : cnt (k :: P) = cnt P + 1 := by simp [cnt, List.filter_cons, e]
      rw [if_pos e, this, show o + (cnt P + 1) - 1 = o + cnt P by omega, ih hP]
      simp [tz]
    · have : cnt (k :: P) = cnt P := by simp [cnt, List.filter_cons, e]
      rw [if_neg e, this, ih hP]
      simp [tz]
theorem stl_hd {l : Nat} {π : List Nat} {o : Nat} {c : List (Nat × Nat)} (h : hdl l π) : stel l π o c = (π, o, c) := by
  cases π with
  | nil => rfl
  | cons k π =>
    have := h k rfl
    rw [stel, if_neg (by omega)]
theorem rk_40 {k : Nat} (h : 1 ≤ rk k) : k < 40 := by
  unfold rk at h
  split at h <;> omega
theorem opw_app {π : List Nat} : ∀ {P : List Nat}, (∀ k, k ∈ P → 1 ≤ rk k) → opw (P ++ π) = opw π := by
  intro P
  induction P with
  | nil => intro _; rfl
  | cons k P ih =>
    intro h
    have hk := rk_40 (h k List.mem_cons_self)
    show opw (k :: (P ++ π)) = _
    rw [opw, if_neg (by omega), ih fun j hj => h j (List.mem_cons_of_mem _ hj)]
theorem cmpd_app {π : List Nat} : ∀ {P : List Nat}, (∀ k, k ∈ P → 5 ≤ rk k) → cmpd (P ++ π) = cmpd π := by
  intro P
  induction P with
  | nil => intro _; rfl
  | cons k P ih =>
    intro h
    have hk := h k List.mem_cons_self
    show cmpd (k :: (P ++ π)) = _
    rw [cmpd, if_pos (by omega), ih fun j hj => h j (List.mem_cons_of_mem _ hj)]
theorem hdl_mono {l l' : Nat} (h : l ≤ l') {π : List Nat} (w : hdl l π) : hdl l' π := fun k e => Nat.lt_of_lt_of_le (w k e) h
theorem hdl_cons {l k : Nat} (h : rk k < l) (π : List Nat) : hdl l (k :: π) := fun j e => by
  cases e; exact h
theorem aah_hd {π : List Nat} (a : aah π) : hdl 4 π := by
  intro k e
  cases π with
  | nil => cases e
  | cons j π =>
    cases e
    exact Nat.lt_succ_of_le a.2
theorem aah_cmpd {π : List Nat} (a : aah π) : cmpd π = false := by
  cases π with
  | nil => rfl
  | cons j π =>
    have : rk j ≤ 3 := a.2
    rw [cmpd, if_neg (by omega)]
    exact decide_eq_false (by omega)
theorem aah_cons {k : Nat} {π : List Nat} (a : opw π = 41) (h1 : rk k ≤ 3) (h2 : k < 40) : aah (k :: π) := by
  refine ⟨?_, h1⟩
  rw [opw, if_neg (by omega)]
  exact a
section YARD
variable {tk tv : Nat → Nat} {sl : Bool}
theorem Yr_len {s s' : YS} (h : Yr tk tv sl s s') : s.1.length ≤ 60 := by
  obtain ⟨n, h⟩ := h
  cases n with
  | zero => exact h.2
  | succ n => exact h.1
theorem Yr_len' {s s' : YS} (h : Yr tk tv sl s s') : s'.1.length ≤ 60 := by
  obtain ⟨n, h⟩ := h
  induction n generalizing s with
  | zero => rw [← h.1]; exact h.2
  | succ n ih =>
    obtain ⟨-, s1, -, h⟩ := h
    exact ih h
theorem Yr_refl {s : YS} (h : s.1.length ≤ 60) : Yr tk tv sl s s := ⟨0, rfl, h⟩
theorem Yr_step {s s1 s' : YS} (h : s.1.length ≤ 60) (e : ynx tk tv sl s = .inl s1) (r : Yr tk tv sl s1 s') : Yr tk tv sl s s' := by
  obtain ⟨n, r⟩ := r
  exact ⟨n + 1, h, s1, e, r⟩
theorem Yr_trans {s s1 s' : YS} (a : Yr tk tv sl s s1) (b : Yr tk tv sl s1 s') : Yr tk tv sl s s' := by
  obtain ⟨n, a⟩ := a
  induction n generalizing s with
  | zero => rw [a.1]; exact b
  | succ n ih =>
    obtain ⟨h1, s2, h2, h3⟩ := a
    exact Yr_step h1 h2 (ih h3)
theorem stl_len (l : Nat) : ∀ (π : List Nat) (o : Nat) (c : List (Nat × Nat)), (stel l π o c).1.length ≤ π.length := by
  intro π
  induction π with
  | nil => intro o c; exact Nat.le_refl _
  | cons k π ih =>
    intro o c
    rw [stel]
    split
    · exact Nat.le_succ_of_le (ih _ _)
    · exact Nat.le_refl _
/-- a one; a part that can't be; a part that leaves some waiting -/
def ONE (tk tv : Nat → Nat) (sl : Bool) (o p : Nat) (m : List (Nat × Nat)) (q : Nat) : Prop := ∀ π c, π.length ≤ 6 * o + 2 → Yr tk tv sl (π, o, false, p, c) (fin7 π o (c ++ m) q)
def NOO (tk tv : Nat → Nat) (sl : Bool) (A : List Nat → Prop) (o p f q : Nat) : Prop := ∀ π c, A π → ∃ s, Yr tk tv sl (π, o, false, p, c) s ∧ ynx tk tv sl s = .inr f ∧ s.2.2.2.1 = q
def LEV (tk tv : Nat → Nat) (sl : Bool) (ρ : Nat) (B : Prop) (A : List Nat → Prop) (o p : Nat) (m : List (Nat × Nat)) (q : Nat) : Prop := ∀ π c, A π → ∃ P c', (∀ k, k ∈ P → ρ ≤ rk k) ∧ c' ++ P.map tz = c ++ m ∧ (B → cmpd (P ++ π) = true) ∧ Yr tk tv sl (π, o, false, p, c) (P ++ π, o + cnt P, true, q, c')
def A9 (o : Nat) (π : List Nat) : Prop := π.length ≤ 6 * o + 2
def A0 (o : Nat) (π : List Nat) : Prop := π.length ≤ 6 * o + 1 ∧ hdl 6 π
def A1 (o : Nat) (π : List Nat) : Prop := π.length ≤ 6 * o ∧ hdl 5 π
def A8 (o : Nat) (π : List Nat) : Prop := π.length + 1 ≤ 6 * o ∧ aah π
def A2 (o : Nat) (π : List Nat) : Prop := π.length + 2 ≤ 6 * o ∧ aah π ∧ hdl 2 π
def A3 (o : Nat) (π : List Nat) : Prop := π.length + 3 ≤ 6 * o ∧ aah π ∧ hdl 1 π
def AC (o : Nat) (π : List Nat) : Prop := ∃ π', π = 41 :: π' ∧ π'.length + 4 ≤ 6 * o
/-- not stands there and would be one of a question -/
def AN (tk : Nat → Nat) (p : Nat) (A : List Nat → Prop) (π : List Nat) : Prop := A π ∧ (tk p = 323 → ¬ aah π)
theorem naah_r {k : Nat} (h : 4 ≤ rk k) (π : List Nat) : ¬ aah (k :: π) := fun a => by
  have : rk k ≤ 3 := a.2
  omega
theorem naah_o {k : Nat} (h : 40 ≤ k) (h1 : ¬ k = 41) (π : List Nat) : ¬ aah (k :: π) := fun a => by
  have : opw (k :: π) = 41 := a.1
  rw [opw, if_pos h] at this
  exact h1 this
def ariT (t : Nat) : Prop := t = 42 ∨ t = 43 ∨ t = 45 ∨ t = 47
theorem y_open {o p k : Nat} (h9 : ¬ tk p = 258) (h8 : ¬ (307 ≤ tk p ∧ tk p ≤ 313)) (e : uo (tk p) = k) (hk : ¬ k = 0) (ho : o < 8) (π : List Nat) (c : List (Nat × Nat)) : ynx tk tv sl (π, o, false, p, c) = .inl (k :: π, o + 1, false, p + 1, c) := by
  unfold ynx
  rw [if_neg (by simp), if_neg h9, if_neg h8, if_pos (by rw [e]; exact hk), if_neg (by simp; omega), e]
theorem one_num {o p : Nat} (ho : o ≤ 8) (h : tk p = 258) (hv : tv p ≤ 9999) : ONE tk tv sl o p [(0, tv p)] (p + 1) := by
  intro π c hl
  have e : ynx tk tv sl (π, o, false, p, c) = .inl (fin7 π o (c ++ [(0, tv p)]) (p + 1)) := by
    unfold ynx
    rw [if_neg (by simp), if_pos h, if_pos hv]
  have := stl_len 7 π o (c ++ [(0, tv p)])
  exact Yr_step (by simp only; omega) e (Yr_refl (by show (stel 7 π o (c ++ [(0, tv p)])).1.length ≤ 60; omega))
theorem one_nam {o p : Nat} (ho : o ≤ 8) (h1 : 307 ≤ tk p) (h2 : tk p ≤ 313) (hv : tk p < 311 ∨ sl = true) : ONE tk tv sl o p [(1, tk p - 307)] (p + 1) := by
  intro π c hl
  have e : ynx tk tv sl (π, o, false, p, c) = .inl (fin7 π o (c ++ [(1, tk p - 307)]) (p + 1)) := by
    unfold ynx
    rw [if_neg (by simp), if_neg (by show ¬ tk p = 258; omega), if_pos ⟨h1, h2⟩, if_pos hv]
  have := stl_len 7 π o (c ++ [(1, tk p - 307)])
  exact Yr_step (by simp only; omega) e (Yr_refl (by show (stel 7 π o (c ++ [(1, tk p - 307)])).1.length ≤ 60; omega))
theorem no_at {A : List Nat → Prop} {o p f : Nat} (hA : ∀ π, A π → π.length ≤ 60) (e : ∀ π c, A π → ynx tk tv sl (π, o, false, p, c) = .inr f) : NOO tk tv sl A o p f p := by
  intro π c a
  exact ⟨_, Yr_refl (hA π a), e π c a, rfl⟩
theorem no_num {A : List Nat → Prop} {o p : Nat} (hA : ∀ π, A π → π.length ≤ 60) (h : tk p = 258) (hv : ¬ tv p ≤ 9999) : NOO tk tv sl A o p 2 p := by
  refine no_at hA fun π c a => ?_
  unfold ynx
  rw [if_neg (by simp), if_pos h, if_neg hv]
theorem no_nam {A : List Nat → Prop} {o p : Nat} (hA : ∀ π, A π → π.length ≤ 60) (h1 : 311 ≤ tk p) (h2 : tk p ≤ 313) (hv : sl = false) : NOO tk tv sl A o p 5 p := by
  refine no_at hA fun π c a => ?_
  unfold ynx
  rw [if_neg (by simp), if_neg (by show ¬ tk p = 258; omega), if_pos (by show 307 ≤ tk p ∧ tk p ≤ 313; omega), if_neg (by show ¬ (tk p < 311 ∨ sl = true); rw [hv]; simp; omega)]
theorem no_deep {A : List Nat → Prop} {o p : Nat} (hA : ∀ π, A π → π.length ≤ 60) (h9 : ¬ tk p = 258) (h8 : ¬ (307 ≤ tk p ∧ tk p ≤ 313)) (e : ¬ uo (tk p) = 0) (ho : 8 ≤ o) : NOO tk tv sl A o p 3 p := by
  refine no_at hA fun π c a => ?_
  unfold ynx
  rw [if_neg (by simp), if_neg h9, if_neg h8, if_pos e, if_pos ho]
theorem no_bad {A : List Nat → Prop} {o p : Nat} (hA : ∀ π, A π → π.length ≤ 60) (h9 : ¬ tk p = 258) (h8 : ¬ (307 ≤ tk p ∧ tk p ≤ 313)) (e : uo (tk p) = 0) (h7 : tk p = 323 → ∀ π, A π → ¬ aah π) : NOO tk tv sl A o p 1 p := by
  refine no_at hA fun π c a => ?_
  unfold ynx
  rw [if_neg (by simp), if_neg h9, if_neg h8, if_neg (by rw [e]; simp), if_neg (fun q => h7 q.1 π a q.2)]
theorem no_not {A : List Nat → Prop} {o p : Nat} (hA : ∀ π, A π → π.length ≤ 60 ∧ aah π) (h : tk p = 323) (ho : 8 ≤ o) : NOO tk tv sl A o p 3 p := by
  refine no_at (fun π a => (hA π a).1) fun π c a => ?_
  unfold ynx
  rw [if_neg (by simp), if_neg (by show ¬ tk p = 258; omega), if_neg (by show ¬ (307 ≤ tk p ∧ tk p ≤ 313); omega), if_neg (by show ¬ ¬ uo (tk p) = 0; rw [h]; decide), if_pos ⟨h, (hA π a).2⟩, if_pos ho]
theorem un_rk {k : Nat} (hk : k = 5 ∨ k = 4 ∨ k = 2) : rk k = 7 := by rcases hk with rfl | rfl | rfl <;> rfl
theorem fin7_cons {k : Nat} (hk : rk k = 7) (π : List Nat) (o : Nat) (c : List (Nat × Nat)) (q : Nat) : fin7 (k :: π) (o + 1) c q = fin7 π o (c ++ [(k, 0)]) q := by
  unfold fin7
  rw [stel, if_pos (by omega), if_pos (Or.inl hk), Nat.add_sub_cancel]
theorem one_un {o p k q : Nat} {m : List (Nat × Nat)} (h9 : ¬ tk p = 258) (h8 : ¬ (307 ≤ tk p ∧ tk p ≤ 313)) (e : uo (tk p) = k) (hk : k = 5 ∨ k = 4 ∨ k = 2) (ho : o < 8) (I : ONE tk tv sl (o + 1) (p + 1) m q) : ONE tk tv sl o p (m ++ [(k, 0)]) q := by
  intro π c hl
  have := I (k :: π) c (by simp only [List.length_cons]; omega)
  rw [fin7_cons (un_rk hk), List.append_assoc] at this
  exact Yr_step (by simp only; omega) (y_open h9 h8 e (by omega) ho π c) this
theorem no_un {o p k f q : Nat} (h9 : ¬ tk p = 258) (h8 : ¬ (307 ≤ tk p ∧ tk p ≤ 313)) (e : uo (tk p) = k) (hk : k = 5 ∨ k = 4 ∨ k = 2) (ho : o < 8) (I : NOO tk tv sl (AN tk (p + 1) (A9 (o + 1))) (o + 1) (p + 1) f q) : NOO tk tv sl (AN tk p (A9 o)) o p f q := by
  intro π c hl
  have hl' : π.length ≤ 6 * o + 2 := hl.1
  obtain ⟨s, r, h⟩ := I (k :: π) c ⟨by show (k :: π).length ≤ 6 * (o + 1) + 2; simp only [List.length_cons]; omega, fun _ => naah_r (by rw [un_rk hk]; omega) π⟩
  exact ⟨s, Yr_step (by simp only; omega) (y_open h9 h8 e (by omega) ho π c) r, h⟩
theorem map_cnt0 {P : List Nat} (h : ∀ k, k ∈ P → 1 ≤ rk k ∧ rk k ≤ 6 ∧ ¬ k = 20) : cnt P = 0 := by
  unfold cnt
  rw [List.length_eq_zero_iff, List.filter_eq_nil_iff]
  intro k hk
  have := h k hk
  simp
  omega
/-- a sum in brackets -/
theorem y_par {o p : Nat} (h : tk p = 40) (ho : o < 8) {π : List Nat} (hl : π.length ≤ 6 * o + 2) (c : List (Nat × Nat)) {s : YS} (r : Yr tk tv sl (40 :: π, o + 1, false, p + 1, c) s) : Yr tk tv sl (π, o, false, p, c) s :=
  Yr_step (by simp only; omega) (y_open (by omega) (by omega) (by rw [h]; rfl) (by decide) ho π c) r
theorem A1_par {o k : Nat} {π : List Nat} (hk : 40 ≤ k) (hl : π.length ≤ 6 * o + 2) : A1 (o + 1) (k :: π) := by
  refine ⟨by simp only [List.length_cons]; omega, hdl_cons ?_ π⟩
  unfold rk
  rw [if_pos hk]
  omega
theorem ge1 {P : List Nat} {ρ : Nat} (h : ∀ k, k ∈ P → ρ ≤ rk k) (hr : 1 ≤ ρ) : ∀ k, k ∈ P → 1 ≤ rk k := fun k hk => Nat.le_trans hr (h k hk)
theorem bt_none {π : List Nat} {t : Nat} (ha : ¬ ariT t) (h : ¬ opw π = 41) : bt π t = 0 := by
  unfold ariT at ha
  unfold bt
  rw [if_neg (by omega), if_neg (by omega), if_neg (by omega), if_neg (by omega), if_neg h]
theorem one_par {o p q : Nat} {m : List (Nat × Nat)} (h : tk p = 40) (ho : o < 8) (I : LEV tk tv sl 5 False (A1 (o + 1)) (o + 1) (p + 1) m q) (h2 : tk q = 41) : ONE tk tv sl o p m (q + 1) := by
  intro π c hl
  obtain ⟨P, c', h3, h4, -, r⟩ := I (40 :: π) c (A1_par (by omega) hl)
  refine Yr_trans (y_par h ho hl c r) ?_
  have w := opw_app (π := 40 :: π) (ge1 h3 (by omega))
  have w' : opw (40 :: π) = 40 := rfl
  rw [w'] at w
  have hs := stl_app (l := 1) (π := 40 :: π) (P := P) (o := o + 1) (c := c') (ge1 h3 (by omega))
  rw [h4, stl_hd (hdl_cons (by decide) π)] at hs
  have e : ynx tk tv sl (P ++ 40 :: π, o + 1 + cnt P, true, q, c') = .inl (fin7 π o (c ++ m) (q + 1)) := by
    unfold ynx
    simp only
    rw [if_pos trivial, if_pos (bt_none (by unfold ariT; omega) (by omega)), show pt (P ++ 40 :: π) (tk q) = 1 by unfold pt; rw [w, h2]; rfl, if_neg (by decide), if_pos rfl, hs, if_neg (by omega), List.append_nil]
    rfl
  have := stl_len 7 π o (c ++ m)
  exact Yr_step (Yr_len' r) e (Yr_refl (by show (stel 7 π o (c ++ m)).1.length ≤ 60; omega))
theorem no_par {o p q f : Nat} (h : tk p = 40) (ho : o < 8) (I : NOO tk tv sl (AN tk (p + 1) (A1 (o + 1))) (o + 1) (p + 1) f q) : NOO tk tv sl (AN tk p (A9 o)) o p f q := by
  intro π c hl
  obtain ⟨s, r, w⟩ := I (40 :: π) c ⟨A1_par (by omega) hl.1, fun _ => naah_o (by omega) (by omega) π⟩
  exact ⟨s, y_par h ho hl.1 c r, w⟩
theorem no_par2 {o p q : Nat} {m : List (Nat × Nat)} (h : tk p = 40) (ho : o < 8) (I : LEV tk tv sl 5 False (A1 (o + 1)) (o + 1) (p + 1) m q) (ha : ¬ ariT (tk q)) (h2 : ¬ tk q = 41) : NOO tk tv sl (AN tk p (A9 o)) o p 1 q := by
  intro π c hl
  obtain ⟨P, c', h3, h4, -, r⟩ := I (40 :: π) c (A1_par (by omega) hl.1)
  refine ⟨_, y_par h ho hl.1 c r, ?_, rfl⟩
  have w := opw_app (π := 40 :: π) (ge1 h3 (by omega))
  have w' : opw (40 :: π) = 40 := rfl
  rw [w'] at w
  unfold ynx
  simp only
  rw [if_pos trivial, if_pos (bt_none ha (by omega)), if_pos (by unfold pt; rw [w, if_pos rfl, if_neg h2]), if_neg (by omega)]
/-- a level of the grammar: what stands first, what comes behind an operation -/
def opT (l t : Nat) : Nat := if l = 0 then (if t = 42 then 8 else if t = 47 then 9 else 0) else if l = 1 then (if t = 43 then 6 else if t = 45 then 7 else 0) else if l = 2 then (if t = 322 then 21 else 0) else (if t = 321 then 22 else 0)
theorem lev0_one {o p q : Nat} {m : List (Nat × Nat)} (I : ONE tk tv sl o p m q) : LEV tk tv sl 6 False (A0 o) o p m q := by
  intro π c a
  have r := I π c (by have := a.1; omega)
  refine ⟨[], c ++ m, fun _ h => (by cases h), by simp, False.elim, ?_⟩
  unfold fin7 at r
  rw [stl_hd (hdl_mono (by omega) a.2)] at r
  exact r
theorem lev0_no {o p f q : Nat} (I : NOO tk tv sl (AN tk p (A9 o)) o p f q) : NOO tk tv sl (AN tk p (A0 o)) o p f q := fun π c a => I π c ⟨by have := a.1.1; show π.length ≤ 6 * o + 2; omega, a.2⟩
theorem y_btw {π P : List Nat} {o p k l : Nat} {c c' : List (Nat × Nat)} (h3 : ∀ j, j ∈ P → l ≤ rk j) (h4 : c' ++ P.map tz = c) (hh : hdl l π) (hb : bt (P ++ π) (tk p) = k) (hk : ¬ k = 0) (hl : (if rk k = 4 then 5 else rk k) = l) : ynx tk tv sl (P ++ π, o + cnt P, true, p, c') = .inl (k :: π, o, false, p + 1, c) := by
  have hs := stl_app (l := l) (π := π) (P := P) (o := o) (c := c') h3
  rw [h4, stl_hd hh] at hs
  unfold ynx
  simp only
  rw [if_pos trivial, hb, if_neg hk, hl, hs]
theorem bt_ari {π : List Nat} {l t k : Nat} (hl : l ≤ 1) (e : opT l t = k) (hk : ¬ k = 0) : bt π t = k ∧ (if rk k = 4 then 5 else rk k) = 6 - l ∧ (k = 6 ∨ k = 7 ∨ k = 8 ∨ k = 9) := by
  unfold opT at e
  unfold bt
  have : l = 0 ∨ l = 1 := by omega
  rcases this with rfl | rfl
  · rw [if_pos rfl] at e
    split at e
    · subst e; rename_i h; rw [h]; exact ⟨rfl, by decide, by decide⟩
    · split at e
      · subst e; rename_i h; rw [h]; exact ⟨rfl, by decide, by decide⟩
      · omega
  · rw [if_neg (by omega), if_pos rfl] at e
    split at e
    · subst e; rename_i h; rw [h]; exact ⟨rfl, by decide, by decide⟩
    · split at e
      · subst e; rename_i h; rw [h]; exact ⟨rfl, by decide, by decide⟩
      · omega
theorem lev0_y {o p0 p k : Nat} {m : List (Nat × Nat)} (I : LEV tk tv sl 6 False (A0 o) o p0 m p) (e : opT 0 (tk p) = k) (hk : ¬ k = 0) {π : List Nat} (a : A0 o π) (c : List (Nat × Nat)) {s : YS} (r : Yr tk tv sl (k :: π, o, false, p + 1, c ++ m) s) : Yr tk tv sl (π, o, false, p0, c) s := by
  obtain ⟨P, c', h3, h4, -, r1⟩ := I π c a
  have b := bt_ari (π := P ++ π) (l := 0) (by omega) e hk
  exact Yr_trans r1 (Yr_step (Yr_len' r1) (y_btw h3 h4 a.2 b.1 hk b.2.1) r)
theorem lev0_go {o p0 p k q : Nat} {m m2 : List (Nat × Nat)} (ho : o ≤ 8) (I : LEV tk tv sl 6 False (A0 o) o p0 m p) (e : opT 0 (tk p) = k) (hk : ¬ k = 0) (J : ONE tk tv sl o (p + 1) m2 q) : LEV tk tv sl 6 False (A0 o) o p0 (m ++ m2 ++ [(k, 0)]) q := by
  intro π c a
  have b := bt_ari (π := π) (l := 0) (by omega) e hk
  have hr : rk k = 6 := by have := b.2.1; split at this <;> omega
  have r := J (k :: π) (c ++ m) (by have := a.1; simp only [List.length_cons]; omega)
  unfold fin7 at r
  rw [stl_hd (hdl_cons (by omega) π)] at r
  refine ⟨[k], c ++ m ++ m2, fun j hj => ?_, ?_, False.elim, ?_⟩
  · rw [List.mem_singleton] at hj; subst hj; omega
  · simp [tz]
  · rw [map_cnt0 (P := [k]) (fun j hj => by rw [List.mem_singleton] at hj; subst hj; omega)]
    exact lev0_y I e hk a c r
theorem lev0_no2 {o p0 p k f q : Nat} {m : List (Nat × Nat)} (I : LEV tk tv sl 6 False (A0 o) o p0 m p) (e : opT 0 (tk p) = k) (hk : ¬ k = 0) (J : NOO tk tv sl (AN tk (p + 1) (A9 o)) o (p + 1) f q) : NOO tk tv sl (AN tk p0 (A0 o)) o p0 f q := by
  intro π c a
  have b := bt_ari (π := π) (l := 0) (by omega) e hk
  have hr : rk k = 6 := by have := b.2.1; split at this <;> omega
  obtain ⟨s, r, w⟩ := J (k :: π) (c ++ m) ⟨by have := a.1.1; show (k :: π).length ≤ 6 * o + 2; simp only [List.length_cons]; omega, fun _ => naah_r (by omega) π⟩
  exact ⟨s, lev0_y I e hk a.1 c r, w⟩
theorem lev1_lev {o p q : Nat} {m : List (Nat × Nat)} (I : LEV tk tv sl 6 False (A0 o) o p m q) : LEV tk tv sl 5 False (A1 o) o p m q := by
  intro π c a
  obtain ⟨P, c', h3, h⟩ := I π c ⟨by have := a.1; omega, hdl_mono (by omega) a.2⟩
  exact ⟨P, c', fun k hk => Nat.le_trans (by omega) (h3 k hk), h⟩
theorem lev1_no {o p f q : Nat} (I : NOO tk tv sl (AN tk p (A0 o)) o p f q) : NOO tk tv sl (AN tk p (A1 o)) o p f q := fun π c a => I π c ⟨⟨by have := a.1.1; omega, hdl_mono (by omega) a.1.2⟩, a.2⟩
theorem lev1_y {o p0 p k : Nat} {m : List (Nat × Nat)} (I : LEV tk tv sl 5 False (A1 o) o p0 m p) (e : opT 1 (tk p) = k) (hk : ¬ k = 0) {π : List Nat} (a : A1 o π) (c : List (Nat × Nat)) {s : YS} (r : Yr tk tv sl (k :: π, o, false, p + 1, c ++ m) s) : Yr tk tv sl (π, o, false, p0, c) s := by
  obtain ⟨P, c', h3, h4, -, r1⟩ := I π c a
  have b := bt_ari (π := P ++ π) (l := 1) (by omega) e hk
  exact Yr_trans r1 (Yr_step (Yr_len' r1) (y_btw h3 h4 a.2 b.1 hk b.2.1) r)
theorem cnt_app (P Q : List Nat) : cnt (P ++ Q) = cnt P + cnt Q := by simp [cnt]
theorem lev1_go {o p0 p k q : Nat} {m m2 : List (Nat × Nat)} (I : LEV tk tv sl 5 False (A1 o) o p0 m p) (e : opT 1 (tk p) = k) (hk : ¬ k = 0) (J : LEV tk tv sl 6 False (A0 o) o (p + 1) m2 q) : LEV tk tv sl 5 False (A1 o) o p0 (m ++ m2 ++ [(k, 0)]) q := by
  intro π c a
  have b := bt_ari (π := π) (l := 1) (by omega) e hk
  have hr : rk k = 5 := by have := b.2.1; rcases b.2.2 with z | z | z | z <;> rw [z] at this ⊢ <;> first | rfl | exact absurd this (by decide)
  obtain ⟨P, c', h3, h4, -, r⟩ := J (k :: π) (c ++ m) ⟨by have := a.1; simp only [List.length_cons]; omega, hdl_cons (by omega) π⟩
  refine ⟨P ++ [k], c', fun j hj => ?_, ?_, False.elim, ?_⟩
  · rcases List.mem_append.mp hj with hj | hj
    · exact Nat.le_trans (by omega) (h3 j hj)
    · rw [List.mem_singleton] at hj; subst hj; omega
  · rw [List.map_append, ← List.append_assoc, h4]
    simp [tz]
  · rw [cnt_app, map_cnt0 (P := [k]) (fun j hj => by rw [List.mem_singleton] at hj; subst hj; omega), Nat.add_zero, List.append_assoc]
    exact lev1_y I e hk a c r
theorem lev1_no2 {o p0 p k f q : Nat} {m : List (Nat × Nat)} (I : LEV tk tv sl 5 False (A1 o) o p0 m p) (e : opT 1 (tk p) = k) (hk : ¬ k = 0) (J : NOO tk tv sl (AN tk (p + 1) (A0 o)) o (p + 1) f q) : NOO tk tv sl (AN tk p0 (A1 o)) o p0 f q := by
  intro π c a
  have b := bt_ari (π := π) (l := 1) (by omega) e hk
  have hr : rk k = 5 := by have := b.2.1; rcases b.2.2 with z | z | z | z <;> rw [z] at this ⊢ <;> first | rfl | exact absurd this (by decide)
  obtain ⟨s, r, w⟩ := J (k :: π) (c ++ m) ⟨⟨by have := a.1.1; simp only [List.length_cons]; omega, hdl_cons (by omega) π⟩, fun _ => naah_r (by omega) π⟩
  exact ⟨s, lev1_y I e hk a.1 c r, w⟩
end YARD
