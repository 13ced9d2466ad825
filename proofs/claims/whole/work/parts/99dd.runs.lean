/-! TWO PROGRAMS: runs, calls -/
/-- its ways lead to lo or behind it -/
def jge (lo : Nat) (i : MI) : Bool := match i with
  | (_, ins, _, _, sw, a, _, _, _, _) => match ins with
    | .goto _ => Nat.ble lo a
    | .ifCond _ _ => Nat.ble lo a
    | .if_icmp _ _ => Nat.ble lo a
    | .ifnull _ => Nat.ble lo a
    | .ifnonnull _ => Nat.ble lo a
    | .tableswitch _ _ _ _ => Nat.ble lo a && sw.all fun q => Nat.ble lo q.2
    | .lookupswitch _ _ => Nat.ble lo a && sw.all fun q => Nat.ble lo q.2
    | _ => true
theorem ge_nx {k : Nat} {ls : ML} {st : List Value} {h : MH} {q : Nat × ML × List Value × MH} (e : nx k ls st h = some (.inl q)) : q.1 = k := by
  unfold nx at e
  cases e
  rfl
theorem ge_cl {o : Option (Value × MH)} {rk k : Nat} {ls : ML} {st : List Value} {q : Nat × ML × List Value × MH} (e : mcl o rk k ls st = some (.inl q)) : q.1 = k := by
  unfold mcl at e
  split at e <;> split at e <;> first | (cases e; done) | exact ge_nx e
theorem ge_call {h : MH} {i : MI} {k : Nat} {ls : ML} {st : List Value} {ev : ME} {q : Nat × ML × List Value × MH} (e : mcall i k ls st h ev = some (.inl q)) : q.1 = k + 1 := by
  obtain ⟨pc, ins, x, y, sw, a, b, c, d, e0⟩ := i
  unfold mcall at e
  dsimp only at e
  split at e
  · exact ge_cl e
  · cases e
theorem ge_callv {h : MH} {i : MI} {k : Nat} {ls : ML} {st : List Value} {ev : ME} {q : Nat × ML × List Value × MH} (e : mcallv i k ls st h ev = some (.inl q)) : q.1 = k + 1 := by
  obtain ⟨pc, ins, x, y, sw, a, b, c, d, e0⟩ := i
  unfold mcallv at e
  dsimp only at e
  split at e
  · exact ge_call (mck_some e).2
  · cases e
theorem ge_clone {h : MH} {k : Nat} {ls : ML} {st : List Value} {q : Nat × ML × List Value × MH} (e : mclone k ls st h = some (.inl q)) : q.1 = k + 1 := by
  unfold mclone at e
  split at e
  · split at e
    · exact ge_nx (mck_some e).2
    · cases e
  · cases e
theorem ge_math {h : MH} {d k : Nat} {ls : ML} {st : List Value} {q : Nat × ML × List Value × MH} (e : mmath d k ls st h = some (.inl q)) : q.1 = k + 1 := by
  unfold mmath at e
  (repeat' (split at e)) <;> first | (cases e; done) | exact ge_nx e
theorem ge_copy {h : MH} {k : Nat} {ls : ML} {st : List Value} {q : Nat × ML × List Value × MH} (e : mcopy k ls st h = some (.inl q)) : q.1 = k + 1 := by
  unfold mcopy at e
  split at e
  · split at e
    · exact ge_nx (mck_some e).2
    · cases e
  · cases e
theorem ge_br {c : Prop} {d : Decidable c} {lo t k : Nat} {ls : ML} {st : List Value} {h : MH} {q : Nat × ML × List Value × MH} (ht : lo ≤ t) (hk : lo ≤ k) (e : mbr c d t k ls st h = some (.inl q)) : lo ≤ q.1 := by
  unfold mbr at e
  split at e
  · rw [ge_nx e]; exact ht
  · rw [ge_nx e]; exact hk
theorem ge_sw {x : Int32} {lo t : Nat} (ht : lo ≤ t) : ∀ (l : List (Int32 × Nat)), (l.all fun q => Nat.ble lo q.2) = true → lo ≤ msw x t l := by
  intro l
  induction l with
  | nil => intro _; exact ht
  | cons q l ih =>
    intro e
    rw [List.all_cons, Bool.and_eq_true] at e
    rw [msw]
    split
    · exact Nat.le_of_ble_eq_true e.1
    · exact ih e.2
set_option maxHeartbeats 8000000 in
theorem mst_ge {lo : Nat} {i : MI} {k : Nat} {ls : ML} {st : List Value} {h : MH} {ev : ME} {q : Nat × ML × List Value × MH} (hj : jge lo i = true) (hk : lo ≤ k) (hs : mst i k ls st h ev = some (.inl q)) : lo ≤ q.1 := by
  obtain ⟨pc, ins, x, y, sw, a, b, c, d, e⟩ := i
  have hk' : lo ≤ k + 1 := by omega
  cases ins
  case goto n =>
    simp only [mst] at hs
    rw [ge_nx hs]
    exact Nat.le_of_ble_eq_true hj
  case ifCond n n' =>
    have ha : lo ≤ a := Nat.le_of_ble_eq_true hj
    simp only [mst] at hs
    (repeat' (split at hs)) <;> first | (cases hs; done) | exact ge_br ha hk' hs | exact ge_br hk' ha hs
  case if_icmp n n' =>
    have ha : lo ≤ a := Nat.le_of_ble_eq_true hj
    simp only [mst] at hs
    (repeat' (split at hs)) <;> first | (cases hs; done) | exact ge_br ha hk' hs | exact ge_br hk' ha hs
  case ifnull n =>
    have ha : lo ≤ a := Nat.le_of_ble_eq_true hj
    simp only [mst] at hs
    (repeat' (split at hs)) <;> first | (cases hs; done) | exact ge_br ha hk' hs | exact ge_br hk' ha hs
  case ifnonnull n =>
    have ha : lo ≤ a := Nat.le_of_ble_eq_true hj
    simp only [mst] at hs
    (repeat' (split at hs)) <;> first | (cases hs; done) | exact ge_br ha hk' hs | exact ge_br hk' ha hs
  case tableswitch n1 n2 n3 n4 =>
    simp only [jge, Bool.and_eq_true] at hj
    simp only [mst] at hs
    split at hs
    · rw [ge_nx hs]
      exact ge_sw (Nat.le_of_ble_eq_true hj.1) _ hj.2
    · cases hs
  case lookupswitch n1 n2 =>
    simp only [jge, Bool.and_eq_true] at hj
    simp only [mst] at hs
    split at hs
    · rw [ge_nx hs]
      exact ge_sw (Nat.le_of_ble_eq_true hj.1) _ hj.2
    · cases hs
  all_goals (simp only [mst] at hs <;> (try (cases hs; done)) <;> (repeat' (split at hs)) <;> first
    | (cases hs; done)
    | (rw [ge_nx hs]; exact hk')
    | (rw [ge_nx (mck_some hs).2]; exact hk')
    | (rw [ge_nx (mst1_some hs).2]; exact hk')
    | (rw [ge_nx (mst2_some hs).2]; exact hk')
    | (cases (mck_some hs).2; done)
    | (rw [ge_copy hs]; exact hk')
    | (rw [ge_clone hs]; exact hk')
    | (rw [ge_math hs]; exact hk')
    | (rw [ge_call hs]; exact hk')
    | (rw [ge_callv hs]; exact hk'))
/-- from lo on all instructions are alike and lead to lo or behind it -/
def Clo (ok : Nat → Bool) (lo : Nat) (C : List MI) : Prop := ∀ k i, lo ≤ k → C[k]? = some i → lsk ok i = true ∧ jge lo i = true
theorem jge_0 (i : MI) : jge 0 i = true := by
  obtain ⟨pc, ins, x, y, sw, a, b, c, d, e⟩ := i
  have hb : ∀ n, Nat.ble 0 n = true := fun n => Nat.ble_eq.mpr (Nat.zero_le n)
  cases ins <;> first | rfl | exact hb _ | (simp only [jge, hb, Bool.true_and]; exact List.all_eq_true.mpr fun _ _ => rfl)
theorem sim_run {ok : Nat → Bool} {ev ev' : ME} {C : List MI} {lo : Nat} (he : SE ok ev ev') (hC : Clo ok lo C) : ∀ (f k : Nat) (ls ls' : ML) (st st' : List Value) (h g : MH) (v : Value) (h' : MH) (m : MU), lo ≤ k → mrun ev C f k ls st h = some (v, h') → SS m h g → Rl m ls ls' → Rs m st st' → ∃ m' v' g', mrun ev' (C.map tau) f k ls' st' g = some (v', g') ∧ ml m m' ∧ SS m' h' g' ∧ Rv m' v v' := by
  intro f
  induction f with
  | zero => intro k ls ls' st st' h g v h' m _ e; cases e
  | succ f ih =>
    intro k ls ls' st st' h g v h' m hk e S L R
    rw [mrun] at e
    rw [mrun, List.getElem?_map]
    cases hi : C[k]? with
    | none => rw [hi] at e; cases e
    | some i =>
      rw [hi] at e
      obtain ⟨c1, c2⟩ := hC k i hk hi
      simp only [Option.bind_some, Option.map_some] at e ⊢
      cases hm : mst i k ls st h ev with
      | none => rw [hm] at e; cases e
      | some z =>
        rw [hm] at e
        obtain ⟨m1, z', e1, e2, e3⟩ := sim_st he c1 S L R hm
        rw [e1]
        match z, hm, e, e3 with
        | .inr r, _, e, e3 =>
          obtain ⟨v', g', rfl, q2, q3⟩ := e3
          cases e
          exact ⟨m1, v', g', rfl, e2, q2, q3⟩
        | .inl (k2, ls2, st2, h2), hm, e, e3 =>
          obtain ⟨ls2', st2', g', rfl, q2, q3, q4⟩ := e3
          obtain ⟨m2, v', g2, f1, f2, f3⟩ := ih k2 ls2 ls2' st2 st2' h2 g' v h' m1 (mst_ge c2 hk hm) e q2 q3 q4
          exact ⟨m2, v', g2, f1, ml_tr e2 f2, f3⟩
theorem sim_X {ok : Nat → Bool} {ev ev' : ME} {C : List MI} {lo k : Nat} (he : SE ok ev ev') (hC : Clo ok lo C) {ls ls' : ML} {st st' : List Value} {h g : MH} {v : Value} {h' : MH} {m : MU} (hk : lo ≤ k) (e : mX ev C k ls st h = some (v, h')) (S : SS m h g) (L : Rl m ls ls') (R : Rs m st st') : ∃ m' v' g', mX ev' (C.map tau) k ls' st' g = some (v', g') ∧ ml m m' ∧ SS m' h' g' ∧ Rv m' v v' := by
  obtain ⟨f, hf⟩ := mX_iff.mp e
  obtain ⟨m', v', g', e1, e2⟩ := sim_run he hC f k ls ls' st st' h g v h' m hk hf S L R
  exact ⟨m', v', g', mX_iff.mpr ⟨f, e1⟩, e2⟩
/-! the tables -/
def okl (y : Nat) : Bool := !(Nat.beq y 5 || Nat.beq y 8 || Nat.beq y 242 || Nat.beq y 255)
def okA (y : Nat) : Bool := !(Nat.beq y 5 || Nat.beq y 8)
def tfix (i : MI) : Bool := match i with
  | (_, ins, _, _, _, a, b, _, _, _) => match ins with
    | .getfield _ => Nat.beq (sl (a + 1) b) b
    | _ => true
theorem tau_id {i : MI} (hi : tfix i = true) : tau i = i := by
  obtain ⟨pc, ins, x, y, sw, a, b, c, d, e⟩ := i
  cases ins <;> first | rfl | skip
  case getfield n =>
    have hb : sl (a + 1) b = b := Nat.eq_of_beq_eq_true hi
    simp only [tau, hb]
theorem tau_ids : ∀ {l : List MI}, l.all tfix = true → l.map tau = l := by
  intro l
  induction l with
  | nil => intro _; rfl
  | cons i l ih =>
    intro e
    rw [List.all_cons, Bool.and_eq_true] at e
    rw [List.map_cons, tau_id e.1, ih e.2]
def qR (q q' : MT) : Prop := q'.2.2.1 = q.2.2.1 ∧ q'.2.2.2.2 = q.2.2.2.2.map tau
def tabR : Nat → List MT → List MT → Prop
  | _, [], _ => True
  | _, _ :: _, [] => False
  | y, q :: l, q' :: l' => (okl y = true → qR q q') ∧ tabR (y + 1) l l'
theorem tabR_get : ∀ (l l' : List MT) (y : Nat), tabR y l l' → ∀ j q, l[j]? = some q → okl (y + j) = true → ∃ q', l'[j]? = some q' ∧ qR q q' := by
  intro l
  induction l with
  | nil => intro l' y _ j q e; simp at e
  | cons p l ih =>
    intro l' y t j q e ho
    cases l' with
    | nil => exact False.elim t
    | cons p' l' =>
      cases j with
      | zero =>
        cases e
        exact ⟨p', rfl, t.1 ho⟩
      | succ j => exact ih l' (y + 1) t.2 j q (by simpa using e) (by rwa [show y + 1 + j = y + (j + 1) by omega])
theorem tabR_app : ∀ {l l' k k' : List MT} {y n : Nat}, l.length = n → l'.length = n → tabR y l l' → tabR (y + n) k k' → tabR y (l ++ k) (l' ++ k') := by
  intro l
  induction l with
  | nil =>
    intro l' k k' y n h1 h2 _ t
    have h1 : 0 = n := h1
    subst h1
    obtain rfl := List.length_eq_zero_iff.mp h2
    exact t
  | cons p l ih =>
    intro l' k k' y n h1 h2 t t'
    cases l' with
    | nil => exact False.elim t
    | cons p' l' =>
      rw [List.length_cons] at h1 h2
      refine ⟨t.1, ih (n := n - 1) (by omega) (by omega) t.2 ?_⟩
      rwa [show y + 1 + (n - 1) = y + n by omega]
theorem tabR_same : ∀ {l : List MT} {y : Nat}, (l.all fun q => q.2.2.2.2.all tfix) = true → tabR y l l := by
  intro l
  induction l with
  | nil => intro y _; trivial
  | cons p l ih =>
    intro y e
    rw [List.all_cons, Bool.and_eq_true] at e
    exact ⟨fun _ => ⟨rfl, (tau_ids e.1).symm⟩, ih e.2⟩
def lmeth : Nat → List MT → Bool
  | _, [] => true
  | y, q :: l => (!(okl y) || q.2.2.2.2.all (lsk okl)) && lmeth (y + 1) l
theorem lmeth_of : ∀ (l : List MT) (y : Nat), lmeth y l = true → ∀ j q, l[j]? = some q → okl (y + j) = true → q.2.2.2.2.all (lsk okl) = true := by
  intro l
  induction l with
  | nil => intro y _ j q h; simp at h
  | cons p l ih =>
    intro y hm j q hj hk
    rw [lmeth, Bool.and_eq_true] at hm
    cases j with
    | zero =>
      cases hj
      rw [Nat.add_zero] at hk
      simpa [hk] using hm.1
    | succ j => exact ih (y + 1) hm.2 j q (by simpa using hj) (by rwa [show y + 1 + j = y + (j + 1) by omega])
