/-! THE CODES ARE GOOD: what is to be shown of a method -/
def mokL (tb : List MT) (own : String) (ini : Bool) (cc : ByteArray) (C : List MI) (ret : Option FieldType) : Nat → List MI → List (List Nat) → Bool
  | _, [], _ => true
  | k, i :: l, ps => mokB tb own ini cc C ret k i (ps.headD []) && mokL tb own ini cc C ret (k + 1) l ps.tail
theorem mokL_of {tb : List MT} {own : String} {ini : Bool} {cc : ByteArray} {C : List MI} {ret : Option FieldType} : ∀ (l : List MI) (k : Nat) (PS : List (List Nat)), mokL tb own ini cc C ret k l PS = true → ∀ j i, l[j]? = some i → ∃ ps, mokB tb own ini cc C ret (k + j) i ps = true := by
  intro l
  induction l with
  | nil => intro k PS _ j i h; simp at h
  | cons z l ih =>
    intro k PS h j i hj
    rw [mokL, Bool.and_eq_true] at h
    cases j with
    | zero => cases hj; exact ⟨_, h.1⟩
    | succ j =>
      obtain ⟨ps, hp⟩ := ih (k + 1) PS.tail h.2 j i (by simpa using hj)
      exact ⟨ps, by rw [show k + (j + 1) = k + 1 + j by omega]; exact hp⟩
def mPq (tb : List MT) (q : MT) : Prop := (Cond.code q.1 q.2.1 q.2.2.1 q.2.2.2.1 ∈ lw_tbl ∧ q.2.2.1 ≤ 40) ∧ plainName q.1.cls = true ∧ mbp q.2.2.2.2 0 = 0 ∧ ∀ k i, q.2.2.2.2[k]? = some i → ∃ ps, mokB tb q.1.cls (decide (q.1.name = "<init>")) q.2.1 q.2.2.2.2 q.2.2.2.1 k i ps = true
theorem mPq_of {tb : List MT} {q : MT} (p : Nat) (PS : List (List Nat)) (h1 : lw_tbl[p]? = some (Cond.code q.1 q.2.1 q.2.2.1 q.2.2.2.1)) (h2 : (Nat.ble q.2.2.1 40 && plainName q.1.cls && Nat.beq (mbp q.2.2.2.2 0) 0) = true) (h3 : mokL tb q.1.cls (decide (q.1.name = "<init>")) q.2.1 q.2.2.2.2 q.2.2.2.1 0 q.2.2.2.2 PS = true) : mPq tb q := by
  simp only [Bool.and_eq_true] at h2
  refine ⟨⟨List.mem_of_getElem? h1, Nat.le_of_ble_eq_true h2.1.1⟩, h2.1.2, Nat.eq_of_beq_eq_true h2.2, fun k i hi => ?_⟩
  have := mokL_of _ 0 PS h3 k i hi
  rwa [Nat.zero_add] at this
