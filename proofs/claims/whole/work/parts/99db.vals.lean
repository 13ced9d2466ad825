/-! TWO PROGRAMS: values, stacks, locals -/
def Rv (m : MU) (v w : Value) : Prop := match v with
  | .ref a => ∃ b, w = .ref b ∧ m a = some b
  | _ => w = v
def Rs (m : MU) : List Value → List Value → Prop
  | [], w => w = []
  | v :: l, w => ∃ v' l', w = v' :: l' ∧ Rv m v v' ∧ Rs m l l'
def Rl (m : MU) : ML → ML → Prop
  | [], w => w = []
  | none :: l, w => ∃ l', w = none :: l' ∧ Rl m l l'
  | some v :: l, w => ∃ v' l', w = some v' :: l' ∧ Rv m v v' ∧ Rl m l l'
theorem Rv_ml {m m' : MU} (e : ml m m') {v w : Value} (r : Rv m v w) : Rv m' v w := by
  cases v with
  | ref a => obtain ⟨b, q1, q2⟩ := r; exact ⟨b, q1, e _ _ q2⟩
  | int _ => exact r
  | long _ => exact r
  | float _ => exact r
  | double _ => exact r
  | null => exact r
  | retAddr _ => exact r
theorem Rs_ml {m m' : MU} (e : ml m m') : ∀ {l w : List Value}, Rs m l w → Rs m' l w := by
  intro l
  induction l with
  | nil => intro w r; exact r
  | cons v l ih =>
    rintro w ⟨v', l', q, r1, r2⟩
    exact ⟨v', l', q, Rv_ml e r1, ih r2⟩
theorem Rl_ml {m m' : MU} (e : ml m m') : ∀ {l w : ML}, Rl m l w → Rl m' l w := by
  intro l
  induction l with
  | nil => intro w r; exact r
  | cons v l ih =>
    intro w r
    cases v with
    | none => obtain ⟨l', q, r2⟩ := r; exact ⟨l', q, ih r2⟩
    | some v => obtain ⟨v', l', q, r1, r2⟩ := r; exact ⟨v', l', q, Rv_ml e r1, ih r2⟩
section VS
variable {m : MU}
theorem Rs_i {x : Int32} {l w : List Value} (r : Rs m (.int x :: l) w) : ∃ l', w = .int x :: l' ∧ Rs m l l' := by
  obtain ⟨v, l', q, e, r⟩ := r
  have e : v = .int x := e
  subst e
  exact ⟨l', q, r⟩
theorem Rs_l {x : Int64} {l w : List Value} (r : Rs m (.long x :: l) w) : ∃ l', w = .long x :: l' ∧ Rs m l l' := by
  obtain ⟨v, l', q, e, r⟩ := r
  have e : v = .long x := e
  subst e
  exact ⟨l', q, r⟩
theorem Rs_r {a : Nat} {l w : List Value} (r : Rs m (.ref a :: l) w) : ∃ b l', w = .ref b :: l' ∧ m a = some b ∧ Rs m l l' := by
  obtain ⟨v, l', q, e, r⟩ := r
  obtain ⟨b, e1, e2⟩ := e
  subst e1
  exact ⟨b, l', q, e2, r⟩
theorem Rs_n {w : List Value} (r : Rs m [] w) : w = [] := r
theorem Rs_ci {x : Int32} {l w : List Value} (r : Rs m l w) : Rs m (.int x :: l) (.int x :: w) := ⟨_, _, rfl, rfl, r⟩
theorem Rs_cl {x : Int64} {l w : List Value} (r : Rs m l w) : Rs m (.long x :: l) (.long x :: w) := ⟨_, _, rfl, rfl, r⟩
theorem Rs_cr {a b : Nat} {l w : List Value} (e : m a = some b) (r : Rs m l w) : Rs m (.ref a :: l) (.ref b :: w) := ⟨_, _, rfl, ⟨_, rfl, e⟩, r⟩
theorem Rs_cv {v v' : Value} {l w : List Value} (e : Rv m v v') (r : Rs m l w) : Rs m (v :: l) (v' :: w) := ⟨_, _, rfl, e, r⟩
theorem Rv_cat {v w : Value} (r : Rv m v w) : w.category = v.category := by
  cases v with
  | ref a => obtain ⟨b, q1, q2⟩ := r; subst q1; rfl
  | int _ => have r : w = _ := r; subst r; rfl
  | long _ => have r : w = _ := r; subst r; rfl
  | float _ => have r : w = _ := r; subst r; rfl
  | double _ => have r : w = _ := r; subst r; rfl
  | null => have r : w = _ := r; subst r; rfl
  | retAddr _ => have r : w = _ := r; subst r; rfl
theorem Rs_w : ∀ {l w : List Value}, Rs m l w → words w = words l := by
  intro l
  induction l with
  | nil => intro w r; have r : w = [] := r; subst r; rfl
  | cons v l ih =>
    rintro w ⟨v', l', rfl, r1, r2⟩
    rw [words, words, Rv_cat r1, ih r2]
theorem Rs_len : ∀ {l w : List Value}, Rs m l w → w.length = l.length := by
  intro l
  induction l with
  | nil => intro w r; have r : w = [] := r; subst r; rfl
  | cons v l ih =>
    rintro w ⟨v', l', rfl, r1, r2⟩
    rw [List.length_cons, List.length_cons, ih r2]
theorem Rs_drop : ∀ (n : Nat) {l w : List Value}, Rs m l w → Rs m (l.drop n) (w.drop n) := by
  intro n
  induction n with
  | zero => intro l w r; exact r
  | succ n ih =>
    intro l w r
    cases l with
    | nil => have r : w = [] := r; subst r; exact rfl
    | cons v l =>
      obtain ⟨v', l', rfl, r1, r2⟩ := r
      exact ih r2
theorem Rs_take : ∀ (n : Nat) {l w : List Value}, Rs m l w → Rs m (l.take n) (w.take n) := by
  intro n
  induction n with
  | zero => intro l w r; exact rfl
  | succ n ih =>
    intro l w r
    cases l with
    | nil => have r : w = [] := r; subst r; exact rfl
    | cons v l =>
      obtain ⟨v', l', rfl, r1, r2⟩ := r
      exact ⟨v', l'.take n, rfl, r1, ih r2⟩
theorem Rs_app : ∀ {l w k z : List Value}, Rs m l w → Rs m k z → Rs m (l ++ k) (w ++ z) := by
  intro l
  induction l with
  | nil => intro w k z r q; have r : w = [] := r; subst r; exact q
  | cons v l ih =>
    intro w k z r q
    obtain ⟨v', l', rfl, r1, r2⟩ := r
    exact ⟨v', l' ++ z, rfl, r1, ih r2 q⟩
theorem Rs_rev : ∀ {l w : List Value}, Rs m l w → Rs m l.reverse w.reverse := by
  intro l
  induction l with
  | nil => intro w r; have r : w = [] := r; subst r; exact rfl
  | cons v l ih =>
    intro w r
    obtain ⟨v', l', rfl, r1, r2⟩ := r
    rw [List.reverse_cons, List.reverse_cons]
    exact Rs_app (ih r2) ⟨v', [], rfl, r1, rfl⟩
theorem Rs_tk (n : Nat) {l w : List Value} (r : Rs m l w) : Rs m (mtk l n) (mtk w n) := Rs_rev (Rs_take n r)
theorem Rl_at : ∀ {l w : ML} (_ : Rl m l w) (i : Nat), (l[i]? = none ∧ w[i]? = none) ∨ (l[i]? = some none ∧ w[i]? = some none) ∨ ∃ v v', l[i]? = some (some v) ∧ w[i]? = some (some v') ∧ Rv m v v' := by
  intro l
  induction l with
  | nil => intro w r i; have r : w = [] := r; subst r; exact Or.inl ⟨rfl, rfl⟩
  | cons v l ih =>
    intro w r i
    cases v with
    | none =>
      obtain ⟨l', rfl, r2⟩ := r
      cases i with
      | zero => exact Or.inr (Or.inl ⟨rfl, rfl⟩)
      | succ i => rw [List.getElem?_cons_succ, List.getElem?_cons_succ]; exact ih r2 i
    | some v =>
      obtain ⟨v', l', rfl, r1, r2⟩ := r
      cases i with
      | zero => exact Or.inr (Or.inr ⟨v, v', rfl, rfl, r1⟩)
      | succ i => rw [List.getElem?_cons_succ, List.getElem?_cons_succ]; exact ih r2 i
theorem Rl_len : ∀ {l w : ML}, Rl m l w → w.length = l.length := by
  intro l
  induction l with
  | nil => intro w r; have r : w = [] := r; subst r; rfl
  | cons v l ih =>
    intro w r
    cases v with
    | none => obtain ⟨l', rfl, r2⟩ := r; rw [List.length_cons, List.length_cons, ih r2]
    | some v => obtain ⟨v', l', rfl, r1, r2⟩ := r; rw [List.length_cons, List.length_cons, ih r2]
theorem Rl_set {v v' : Value} (rv : Rv m v v') : ∀ {l w : ML} (_ : Rl m l w) (i : Nat), Rl m (l.set i (some v)) (w.set i (some v')) := by
  intro l
  induction l with
  | nil => intro w r i; have r : w = [] := r; subst r; exact rfl
  | cons u l ih =>
    intro w r i
    cases u with
    | none =>
      obtain ⟨l', rfl, r2⟩ := r
      cases i with
      | zero => exact ⟨v', l', rfl, rv, r2⟩
      | succ i => exact ⟨_, rfl, ih r2 i⟩
    | some u =>
      obtain ⟨u', l', rfl, r1, r2⟩ := r
      cases i with
      | zero => exact ⟨v', l', rfl, rv, r2⟩
      | succ i => exact ⟨_, _, rfl, r1, ih r2 i⟩
theorem Rl_sen : ∀ {l w : ML} (_ : Rl m l w) (i : Nat), Rl m (l.set i none) (w.set i none) := by
  intro l
  induction l with
  | nil => intro w r i; have r : w = [] := r; subst r; exact rfl
  | cons u l ih =>
    intro w r i
    cases u with
    | none =>
      obtain ⟨l', rfl, r2⟩ := r
      cases i with
      | zero => exact ⟨l', rfl, r2⟩
      | succ i => exact ⟨_, rfl, ih r2 i⟩
    | some u =>
      obtain ⟨u', l', rfl, r1, r2⟩ := r
      cases i with
      | zero => exact ⟨l', rfl, r2⟩
      | succ i => exact ⟨_, _, rfl, r1, ih r2 i⟩
theorem Rl_mok {l w : ML} (r : Rl m l w) (i : Nat) : mok w i = mok l i := by
  cases i with
  | zero => rfl
  | succ j =>
    simp only [mok]
    rcases Rl_at r j with ⟨e1, e2⟩ | ⟨e1, e2⟩ | ⟨v, v', e1, e2, rv⟩
    · rw [e1, e2]
    · rw [e1, e2]
    · rw [e1, e2]
      cases v with
      | ref a => obtain ⟨b, q1, q2⟩ := rv; subst q1; rfl
      | int _ => have rv : v' = _ := rv; subst rv; rfl
      | long _ => have rv : v' = _ := rv; subst rv; rfl
      | float _ => have rv : v' = _ := rv; subst rv; rfl
      | double _ => have rv : v' = _ := rv; subst rv; rfl
      | null => have rv : v' = _ := rv; subst rv; rfl
      | retAddr _ => have rv : v' = _ := rv; subst rv; rfl
theorem Rl_app : ∀ {l w k z : ML}, Rl m l w → Rl m k z → Rl m (l ++ k) (w ++ z) := by
  intro l
  induction l with
  | nil => intro w k z r q; have r : w = [] := r; subst r; exact q
  | cons u l ih =>
    intro w k z r q
    cases u with
    | none => obtain ⟨l', rfl, r2⟩ := r; exact ⟨_, rfl, ih r2 q⟩
    | some u => obtain ⟨u', l', rfl, r1, r2⟩ := r; exact ⟨_, _, rfl, r1, ih r2 q⟩
theorem Rl_rep : ∀ n : Nat, Rl m (List.replicate n none) (List.replicate n none) := by
  intro n
  induction n with
  | zero => exact rfl
  | succ n ih => exact ⟨_, rfl, ih⟩
theorem Rl_mL0 : ∀ {l w : List Value}, Rs m l w → Rl m (mL0 l) (mL0 w) := by
  intro l
  induction l with
  | nil => intro w r; have r : w = [] := r; subst r; exact rfl
  | cons v l ih =>
    rintro w ⟨v', l', rfl, r1, r2⟩
    cases v with
    | ref a => obtain ⟨b, q1, q2⟩ := r1; subst q1; exact ⟨_, _, rfl, ⟨b, rfl, q2⟩, ih r2⟩
    | int _ => have r1 : v' = _ := r1; subst r1; exact ⟨_, _, rfl, rfl, ih r2⟩
    | long _ => have r1 : v' = _ := r1; subst r1; exact ⟨_, _, rfl, rfl, ⟨_, rfl, ih r2⟩⟩
    | float _ => have r1 : v' = _ := r1; subst r1; exact ⟨_, _, rfl, rfl, ih r2⟩
    | double _ => have r1 : v' = _ := r1; subst r1; exact ⟨_, _, rfl, rfl, ⟨_, rfl, ih r2⟩⟩
    | null => have r1 : v' = _ := r1; subst r1; exact ⟨_, _, rfl, rfl, ih r2⟩
    | retAddr _ => have r1 : v' = _ := r1; subst r1; exact ⟨_, _, rfl, rfl, ih r2⟩
theorem Rl_mL {l w : List Value} (r : Rs m l w) (n : Nat) : Rl m (mL l n) (mL w n) := by
  unfold mL
  rw [Rl_len (Rl_mL0 r)]
  exact Rl_app (Rl_mL0 r) (Rl_rep _)
end VS
