/-! EQUATIONS OF THE SMALL MACHINE: how a code's meaning is read off, piece by piece -/
noncomputable def mone (ev : ME) (C : List MI) (k : Nat) (ls : ML) (st : List Value) (h : MH) : MO := (C[k]?).bind fun i => mst i k ls st h ev
noncomputable def mfin (ev : ME) (C : List MI) (o : MO) : Option (Value × MH) := match o with
  | none => none
  | some (.inr r) => some r
  | some (.inl (k, ls, st, h)) => mX ev C k ls st h
theorem mX_one {ev : ME} {C : List MI} {k : Nat} {ls : ML} {st : List Value} {h : MH} {o : MO} (hs : mone ev C k ls st h = o) : mX ev C k ls st h = mfin ev C o := by
  subst hs
  exact mX_eq ev C k ls st h
theorem mfin_nx {ev : ME} {C : List MI} {k : Nat} {ls : ML} {st : List Value} {h : MH} : mfin ev C (nx k ls st h) = mX ev C k ls st h := rfl
/-- n plain instructions -/
noncomputable def mgo (ev : ME) (C : List MI) : Nat → Nat → ML → List Value → MH → MO
  | 0, k, ls, st, h => nx k ls st h
  | n + 1, k, ls, st, h => match mone ev C k ls st h with
    | some (.inl (k, ls, st, h)) => mgo ev C n k ls st h
    | _ => none
theorem mX_go {ev : ME} {C : List MI} : ∀ (n : Nat) {k k' : Nat} {ls ls' : ML} {st st' : List Value} {h h' : MH}, mgo ev C n k ls st h = nx k' ls' st' h' → mX ev C k ls st h = mX ev C k' ls' st' h' := by
  intro n
  induction n with
  | zero =>
    intro k k' ls ls' st st' h h' e
    obtain ⟨rfl, rfl, rfl, rfl⟩ := nx_inj (e : nx k ls st h = some (.inl (k', ls', st', h')))
    rfl
  | succ n ih =>
    intro k k' ls ls' st st' h h' e
    rw [mgo] at e
    cases ho : mone ev C k ls st h with
    | none => rw [ho] at e; cases e
    | some z =>
      rw [ho] at e
      match z, ho, e with
      | .inr r, ho, e => cases e
      | .inl (k2, ls2, st2, h2), ho, e => exact (mX_one ho).trans (ih e)
/-- plain instructions, then what is known from there on -/
theorem mX_to {ev : ME} {C : List MI} (n : Nat) {k k' : Nat} {ls ls' : ML} {st st' : List Value} {h h' : MH} {A : Option (Value × MH)} (e : mgo ev C n k ls st h = nx k' ls' st' h') (ha : mX ev C k' ls' st' h' = A) : mX ev C k ls st h = A := (mX_go n e).trans ha
def lt_ {α β : Type} (a : α) (f : α → β) : β := f a
noncomputable def ck (c : Prop) (A : Option (Value × MH)) : Option (Value × MH) := @ite _ c (Classical.propDecidable c) A none
theorem ck_pos {c : Prop} {A : Option (Value × MH)} (h : c) : ck c A = A := by unfold ck; rw [if_pos h]
theorem ck_some {c : Prop} {A : Option (Value × MH)} {r : Value × MH} (h : ck c A = some r) : c ∧ A = some r := by
  unfold ck at h
  split at h
  · rename_i hc; exact ⟨hc, h⟩
  · cases h
def cI (o : Option (Value × MH)) (f : Int32 → MH → Option (Value × MH)) : Option (Value × MH) := match o with
  | some (.int x, h) => f x h
  | _ => none
def cL (o : Option (Value × MH)) (f : Int64 → MH → Option (Value × MH)) : Option (Value × MH) := match o with
  | some (.long x, h) => f x h
  | _ => none
def cR (o : Option (Value × MH)) (f : Nat → MH → Option (Value × MH)) : Option (Value × MH) := match o with
  | some (.ref x, h) => f x h
  | _ => none
def cV (o : Option (Value × MH)) (f : MH → Option (Value × MH)) : Option (Value × MH) := match o with
  | some (_, h) => f h
  | _ => none
theorem cI_some {x : Int32} {h : MH} {f : Int32 → MH → Option (Value × MH)} : cI (some (.int x, h)) f = f x h := rfl
theorem cL_some {x : Int64} {h : MH} {f : Int64 → MH → Option (Value × MH)} : cL (some (.long x, h)) f = f x h := rfl
theorem cR_some {x : Nat} {h : MH} {f : Nat → MH → Option (Value × MH)} : cR (some (.ref x, h)) f = f x h := rfl
theorem cV_some {v : Value} {h : MH} {f : MH → Option (Value × MH)} : cV (some (v, h)) f = f h := rfl
section EQS
variable {ev : ME} {C : List MI} {k : Nat} {ls : ML} {st : List Value} {h : MH}
theorem mX_br {c : Prop} {d : Decidable c} {t f : Nat} {ls' : ML} {st' : List Value} {h' : MH} {A B : Option (Value × MH)} (hs : mone ev C k ls st h = mbr c d t f ls' st' h') (ha : mX ev C t ls' st' h' = A) (hb : mX ev C f ls' st' h' = B) : mX ev C k ls st h = @ite _ c d A B := by
  rw [mX_one hs]
  unfold mbr
  by_cases hc : c
  · rw [if_pos hc, if_pos hc]; exact ha
  · rw [if_neg hc, if_neg hc]; exact hb
theorem mX_ck {c : Prop} {k' : Nat} {ls' : ML} {st' : List Value} {h' : MH} {A : Option (Value × MH)} (hs : mone ev C k ls st h = mck c (nx k' ls' st' h')) (ha : mX ev C k' ls' st' h' = A) : mX ev C k ls st h = ck c A := by
  rw [mX_one hs]
  unfold mck ck
  by_cases hc : c
  · rw [if_pos hc, if_pos hc]; exact ha
  · rw [if_neg hc, if_neg hc]; rfl
theorem mX_sw {x : Int32} {t : Nat} {sw : List (Int32 × Nat)} {ls' : ML} {st' : List Value} {h' : MH} {A : Option (Value × MH)} (hs : mone ev C k ls st h = nx (msw x t sw) ls' st' h') (ha : mX ev C (msw x t sw) ls' st' h' = A) : mX ev C k ls st h = A := by
  rw [mX_one hs]
  exact ha
theorem msw_nil {x : Int32} {t : Nat} {A : Option (Value × MH)} {ls' : ML} {st' : List Value} {h' : MH} (ha : mX ev C t ls' st' h' = A) : mX ev C (msw x t []) ls' st' h' = A := ha
theorem msw_cons {x v : Int32} {t j : Nat} {sw : List (Int32 × Nat)} {A B : Option (Value × MH)} {ls' : ML} {st' : List Value} {h' : MH} (ha : mX ev C j ls' st' h' = A) (hb : mX ev C (msw x t sw) ls' st' h' = B) : mX ev C (msw x t ((v, j) :: sw)) ls' st' h' = if x = v then A else B := by
  rw [msw]
  by_cases hc : x = v
  · rw [if_pos hc, if_pos hc]; exact ha
  · rw [if_neg hc, if_neg hc]; exact hb
theorem mX_cI {o : Option (Value × MH)} {k' : Nat} {ls' : ML} {st' : List Value} {f : Int32 → MH → Option (Value × MH)} (hs : mone ev C k ls st h = mcl o 1 k' ls' st') (ha : ∀ x h', mX ev C k' ls' (.int x :: st') h' = f x h') : mX ev C k ls st h = cI o f := by
  rw [mX_one hs]
  unfold mcl cI
  match o with
  | none => rfl
  | some (.int x, h') => exact ha x h'
  | some (.long x, h') => rfl
  | some (.float x, h') => rfl
  | some (.double x, h') => rfl
  | some (.null, h') => rfl
  | some (.ref x, h') => rfl
  | some (.retAddr x, h') => rfl
theorem mX_cL {o : Option (Value × MH)} {k' : Nat} {ls' : ML} {st' : List Value} {f : Int64 → MH → Option (Value × MH)} (hs : mone ev C k ls st h = mcl o 2 k' ls' st') (ha : ∀ x h', mX ev C k' ls' (.long x :: st') h' = f x h') : mX ev C k ls st h = cL o f := by
  rw [mX_one hs]
  unfold mcl cL
  match o with
  | none => rfl
  | some (.int x, h') => rfl
  | some (.long x, h') => exact ha x h'
  | some (.float x, h') => rfl
  | some (.double x, h') => rfl
  | some (.null, h') => rfl
  | some (.ref x, h') => rfl
  | some (.retAddr x, h') => rfl
theorem mX_cR {o : Option (Value × MH)} {k' : Nat} {ls' : ML} {st' : List Value} {f : Nat → MH → Option (Value × MH)} (hs : mone ev C k ls st h = mcl o 3 k' ls' st') (ha : ∀ x h', mX ev C k' ls' (.ref x :: st') h' = f x h') : mX ev C k ls st h = cR o f := by
  rw [mX_one hs]
  unfold mcl cR
  match o with
  | none => rfl
  | some (.int x, h') => rfl
  | some (.long x, h') => rfl
  | some (.float x, h') => rfl
  | some (.double x, h') => rfl
  | some (.null, h') => rfl
  | some (.ref x, h') => exact ha x h'
  | some (.retAddr x, h') => rfl
theorem mX_cV {o : Option (Value × MH)} {k' : Nat} {ls' : ML} {st' : List Value} {f : MH → Option (Value × MH)} (hs : mone ev C k ls st h = mcl o 0 k' ls' st') (ha : ∀ h', mX ev C k' ls' st' h' = f h') : mX ev C k ls st h = cV o f := by
  rw [mX_one hs]
  unfold mcl cV
  match o with
  | none => rfl
  | some (v, h') => exact ha h'
/-- a call upon an object: the check, then the call -/
theorem mX_ckc {c : Prop} {m : MO} {A : Option (Value × MH)} (hs : mone ev C k ls st h = mck c m) (ha : mfin ev C m = A) : mX ev C k ls st h = ck c A := by
  rw [mX_one hs]
  unfold mck ck
  by_cases hc : c
  · rw [if_pos hc, if_pos hc]; exact ha
  · rw [if_neg hc, if_neg hc]; rfl
theorem mk_cI {o : Option (Value × MH)} {k' : Nat} {ls' : ML} {st' : List Value} {f : Int32 → MH → Option (Value × MH)} (ha : ∀ x h', mX ev C k' ls' (.int x :: st') h' = f x h') : mfin ev C (mcl o 1 k' ls' st') = cI o f := by
  unfold mcl cI
  match o with
  | none => rfl
  | some (.int x, h') => exact ha x h'
  | some (.long x, h') => rfl
  | some (.float x, h') => rfl
  | some (.double x, h') => rfl
  | some (.null, h') => rfl
  | some (.ref x, h') => rfl
  | some (.retAddr x, h') => rfl
theorem mk_cL {o : Option (Value × MH)} {k' : Nat} {ls' : ML} {st' : List Value} {f : Int64 → MH → Option (Value × MH)} (ha : ∀ x h', mX ev C k' ls' (.long x :: st') h' = f x h') : mfin ev C (mcl o 2 k' ls' st') = cL o f := by
  unfold mcl cL
  match o with
  | none => rfl
  | some (.int x, h') => rfl
  | some (.long x, h') => exact ha x h'
  | some (.float x, h') => rfl
  | some (.double x, h') => rfl
  | some (.null, h') => rfl
  | some (.ref x, h') => rfl
  | some (.retAddr x, h') => rfl
theorem mk_cR {o : Option (Value × MH)} {k' : Nat} {ls' : ML} {st' : List Value} {f : Nat → MH → Option (Value × MH)} (ha : ∀ x h', mX ev C k' ls' (.ref x :: st') h' = f x h') : mfin ev C (mcl o 3 k' ls' st') = cR o f := by
  unfold mcl cR
  match o with
  | none => rfl
  | some (.int x, h') => rfl
  | some (.long x, h') => rfl
  | some (.float x, h') => rfl
  | some (.double x, h') => rfl
  | some (.null, h') => rfl
  | some (.ref x, h') => exact ha x h'
  | some (.retAddr x, h') => rfl
theorem mk_cV {o : Option (Value × MH)} {k' : Nat} {ls' : ML} {st' : List Value} {f : MH → Option (Value × MH)} (ha : ∀ h', mX ev C k' ls' st' h' = f h') : mfin ev C (mcl o 0 k' ls' st') = cV o f := by
  unfold mcl cV
  match o with
  | none => rfl
  | some (v, h') => exact ha h'
theorem mX_ret {v : Value} {h' : MH} (hs : mone ev C k ls st h = some (.inr (v, h'))) : mX ev C k ls st h = some (v, h') := (mX_one hs).trans rfl
theorem mX_reti {v : Int32} {h' : MH} (hs : mone ev C k ls st h = mck (mrt 0 v) (some (.inr (.int v, h')))) : mX ev C k ls st h = some (.int v, h') := by
  rw [mX_one hs]
  unfold mck
  rw [if_pos (show mrt 0 v from trivial)]
  rfl
theorem mX_retb {v : Int32} {h' : MH} (hv : v = 0 ∨ v = 1) (hs : mone ev C k ls st h = mck (mrt 1 v) (some (.inr (.int v, h')))) : mX ev C k ls st h = some (.int v, h') := by
  rw [mX_one hs]
  unfold mck
  rw [if_pos (show mrt 1 v from hv)]
  rfl
theorem mX_retc {c : Nat} {v : Int32} {h' : MH} (hs : mone ev C k ls st h = mck (mrt c v) (some (.inr (.int v, h')))) : mX ev C k ls st h = ck (mrt c v) (some (.int v, h')) := by
  rw [mX_one hs]
  unfold mck ck
  by_cases hc : mrt c v
  · rw [if_pos hc, if_pos hc]; rfl
  · rw [if_neg hc, if_neg hc]; rfl
theorem mX_bad (hs : mone ev C k ls st h = none) : mX ev C k ls st h = none := (mX_one hs).trans rfl
theorem mX_ckt {c : Prop} {k' : Nat} {ls' : ML} {st' : List Value} {h' : MH} {A : Option (Value × MH)} (hc : c) (hs : mone ev C k ls st h = mck c (nx k' ls' st' h')) (ha : mX ev C k' ls' st' h' = A) : mX ev C k ls st h = A := by
  rw [mX_ck hs ha]
  exact ck_pos hc
end EQS
theorem lt_eq {α β : Type} {a : α} {f : α → β} {x : β} (h : x = f a) : x = lt_ a f := h
theorem mE_eq {tb : List MT} {d y : Nat} {as : List Value} {h : MH} {q : MT} {C : List MI} {ls : ML} {A : Option (Value × MH)} (hq : tb[y]? = some q) (hl : Nat.ble (mL0 as).length q.2.2.1 = true) (hC : q.2.2.2.2 = C) (hL : mL as q.2.2.1 = ls) (ha : mX (mE tb d) C 0 ls [] h = A) : mE tb (d + 1) y as h = A := by
  rw [mE]
  dsimp only
  rw [hq]
  dsimp only
  rw [hl]
  dsimp only
  rw [hC, hL]
  exact ha
theorem lt_gen {α β : Type} {X : α → β} {a : α} {f : α → β} (h : ∀ v, X v = f v) : X a = lt_ a f := h a
