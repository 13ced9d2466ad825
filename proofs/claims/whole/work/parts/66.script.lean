--deps:19.lay 21.facts 22.00.names 22.01.eq 22.02.eq 22.03.eq 22.04.eq 22.05.eq 22.06.eq 22.07.eq 22.08.eq 22.09.eq 22.10.eq 22.11.eq 22.12.eq 22.13.eq 22.14.eq 22.15.eq 22.16.eq 22.17.eq 22.18.eq 22.19.eq 22.20.eq 22.21.eq 22.22.eq 22.23.eq 23.num 24.town 25.evc 26.evm 27.law 28.says 29.inv 30.api1 31.copy
/-! THE SCRIPT IS LEFT ALONE: as the fixed cells are (19) -/
set_option linter.unusedSectionVars false
def frs (h : MH) : Prop := ∀ a, mN h ≤ a → kd h a = 0
/-- no law's stack is a cell to come -/
def LWF (h : MH) : Prop := ∀ l, kd h l = 4 → gR h l 1 = 0 ∨ ¬ kd h (gR h l 1) = 0
def sk (fs : Nat → Int32) (ns : Nat) (h : MH) : Prop := lay h ∧ ln h 1 = ns ∧ gI h 1 = fs ∧ frs h ∧ LWF h
def cbd4 : List Nat := [0, 1, 2, 3, 4, 5, 6, 7, 8, 10, 89, 90, 91, 93, 95]
def cok4 (y : Nat) : Bool := !(cbd4.any fun b => Nat.beq b y)
def clw (i : MI) : Bool := match i with
  | (_, ins, _, _, _, a, b, c, d, _) => match ins with
    | .putfield _ => match c with
      | 2 => cmut a b && !(Nat.beq a 3 && Nat.beq b 1)
      | _ => Nat.blt a 12
    | .invokestatic _ => match d with
      | 0 => cok4 a
      | _ => true
    | .invokevirtual _ => match d with
      | 3 => true
      | _ => cok4 a
    | .invokespecial _ => match d with
      | 2 => true
      | _ => cok4 a
    | _ => true
def cmt4 (tb : List MT) : Nat → List MT → Bool
  | _, [] => true
  | y, q :: l => (!(cok4 y) || q.2.2.2.2.all clw) && cmt4 tb (y + 1) l
theorem cmt4_of {tb : List MT} : ∀ (l : List MT) (y : Nat), cmt4 tb y l = true → ∀ j q, l[j]? = some q → cok4 (y + j) = true → q.2.2.2.2.all clw = true := by
  intro l
  induction l with
  | nil => intro y _ j q h; simp at h
  | cons z l ih =>
    intro y hm j q hj hk
    rw [cmt4, Bool.and_eq_true] at hm
    cases j with
    | zero =>
      cases hj
      rw [Nat.add_zero] at hk
      simpa [hk] using hm.1
    | succ j => exact ih (y + 1) hm.2 j q (by simpa using hj) (by rwa [show y + 1 + j = y + (j + 1) by omega])
set_option maxRecDepth 100000 in
theorem cmt4_all : cmt4 mtab 0 mtab = true := by decide +kernel
theorem sk_rI {fs : Nat → Int32} {ns : Nat} {h : MH} (L : sk fs ns h) {r : Nat} {f : Nat → Int32} (hr : ¬ r = 1 ∧ ¬ r = 2 ∧ ¬ r = 3 ∧ ¬ r = 4 ∧ ¬ r = 5 ∧ ¬ r = 6 ∧ ¬ r = 7) : sk fs ns (rI h r f) := by
  refine ⟨lay_rI L.1 hr.2, L.2.1, ?_, L.2.2.2⟩
  rw [gI_rI, if_neg (by omega)]
  exact L.2.2.1
theorem sk_ne {fs : Nat → Int32} {ns : Nat} {h : MH} (L : sk fs ns h) {r : Nat} (hk : kd h r < 24) : ¬ r = 1 ∧ ¬ r = 2 ∧ ¬ r = 3 ∧ ¬ r = 4 ∧ ¬ r = 5 ∧ ¬ r = 6 ∧ ¬ r = 7 := by
  refine ⟨?_, lay_ne L.1 hk⟩
  rintro rfl
  rw [L.1.2.1 _ (by decide)] at hk
  exact absurd hk (by decide)
theorem sk_rR {fs : Nat → Int32} {ns : Nat} {h : MH} (L : sk fs ns h) {r : Nat} {f : Nat → Nat} (hr : ∀ q ∈ cRF, q.1 = r → f q.2.1 = q.2.2) (h4 : kd h r = 4 → f 1 = gR h r 1) : sk fs ns (rR h r f) := by
  refine ⟨lay_rR L.1 hr, L.2.1, L.2.2.1, L.2.2.2.1, fun l hl => ?_⟩
  have hl' : kd h l = 4 := hl
  have q := L.2.2.2.2 l hl'
  have e : gR (rR h r f) l 1 = gR h l 1 := by
    rw [gR_rR]
    by_cases z : l = r
    · rw [if_pos z, h4 (z ▸ hl'), z]
    · rw [if_neg z]
  rw [e]
  exact q
theorem sk_rL {fs : Nat → Int32} {ns : Nat} {h : MH} (L : sk fs ns h) {r : Nat} {f : Nat → Int64} (l : lay (rL h r f)) : sk fs ns (rL h r f) := ⟨l, L.2.1, L.2.2⟩
theorem sk_mA {fs : Nat → Int32} {ns : Nat} {h : MH} (L : sk fs ns h) {kn n : Nat} : sk fs ns (mA h kn n) := by
  have hN := L.1.1
  refine ⟨lay_mA L.1, ?_, ?_, ?_, ?_⟩
  · rw [ln_mA, if_neg (by omega)]; exact L.2.1
  · rw [gI_mA, if_neg (by omega)]; exact L.2.2.1
  · intro a ha
    rw [mN_mA] at ha
    rw [kd_mA, if_neg (by omega)]
    exact L.2.2.2.1 a (by omega)
  · intro l hl
    rw [kd_mA] at hl
    rw [gR_mA]
    split at hl
    · rename_i z
      rw [if_pos z]
      exact Or.inl rfl
    · rename_i z
      rw [if_neg z]
      rcases L.2.2.2.2 l hl with q | q
      · exact Or.inl q
      · refine Or.inr ?_
        rw [kd_mA]
        split
        · rename_i w
          exact absurd (L.2.2.2.1 _ (Nat.le_of_eq w.symm)) q
        · exact q
def mEk (fs : Nat → Int32) (ns : Nat) (ev : ME) : Prop := ∀ (y : Nat) (as : List Value) (h : MH) (v : Value) (h' : MH), cok4 y = true → ev y as h = some (v, h') → sk fs ns h → sk fs ns h'
theorem sk_cl {fs : Nat → Int32} {ns : Nat} {o : Option (Value × MH)} {rk k : Nat} {ls : ML} {st : List Value} {z : (Nat × ML × List Value × MH) ⊕ (Value × MH)} (ho : ∀ v h', o = some (v, h') → sk fs ns h') (e : mcl o rk k ls st = some z) : sk fs ns (zh z) := by
  unfold mcl at e
  split at e <;> split at e <;> first | (cases e; done) | (rw [zh_nx e]; exact ho _ _ rfl)
theorem sk_call {fs : Nat → Int32} {ns : Nat} {h : MH} {i : MI} {k : Nat} {ls : ML} {st : List Value} {ev : ME} {z : (Nat × ML × List Value × MH) ⊕ (Value × MH)} (he : mEk fs ns ev) (hc : cok4 i.2.2.2.2.2.1 = true) (L : sk fs ns h) (e : mcall i k ls st h ev = some z) : sk fs ns (zh z) := by
  obtain ⟨pc, ins, x, y, sw, a, b, c, d, e0⟩ := i
  unfold mcall at e
  dsimp only at e hc
  split at e
  · exact sk_cl (fun v h' q => he _ _ _ _ _ hc q L) e
  · cases e
theorem sk_callv {fs : Nat → Int32} {ns : Nat} {h : MH} {i : MI} {k : Nat} {ls : ML} {st : List Value} {ev : ME} {z : (Nat × ML × List Value × MH) ⊕ (Value × MH)} (he : mEk fs ns ev) (hc : cok4 i.2.2.2.2.2.1 = true) (L : sk fs ns h) (e : mcallv i k ls st h ev = some z) : sk fs ns (zh z) := by
  obtain ⟨pc, ins, x, y, sw, a, b, c, d, e0⟩ := i
  unfold mcallv at e
  dsimp only at e hc
  split at e
  · exact sk_call he hc L (mck_some e).2
  · cases e
set_option maxHeartbeats 4000000 in
theorem mst_sk {fs : Nat → Int32} {ns : Nat} {i : MI} {k : Nat} {ls : ML} {st : List Value} {h : MH} {ev : ME} {z : (Nat × ML × List Value × MH) ⊕ (Value × MH)} (he : mEk fs ns ev) (hi : clw i = true) (L : sk fs ns h) (hs : mst i k ls st h ev = some z) : sk fs ns (zh z) := by
  obtain ⟨pc, ins, x, y, sw, a, b, c, d, e⟩ := i
  cases ins
  case putfield n =>
    simp only [clw] at hi
    simp only [mst] at hs
    have h24 : ∀ r, a < 12 → kd h r = a + 1 → kd h r < 24 := fun r h1 h2 => by omega
    split at hs
    · split at hs
      · obtain ⟨hc, hs⟩ := mck_some hs
        rw [zh_nx hs]
        exact sk_rI L (sk_ne L (h24 _ (by simpa [Nat.blt_eq] using hi) hc))
      · cases hs
    · split at hs
      · obtain ⟨hc, hs⟩ := mck_some hs
        rw [zh_nx hs]
        exact L
      · cases hs
    · split at hs
      · rename_i v r st2
        obtain ⟨hc, hs⟩ := mck_some hs
        rw [zh_nx hs]
        have hi0 : (cmut a b && !(Nat.beq a 3 && Nat.beq b 1)) = true := hi
        rw [Bool.and_eq_true] at hi0
        obtain ⟨hi, hi4⟩ := hi0
        refine sk_rR L (fun q hq e1 => ?_) (fun z => ?_)
        rotate_left
        · rw [hc] at z
          rw [va_up_ne _ _ ?_]
          intro w
          have ha : a = 3 := by omega
          subst ha
          subst w
          exact absurd hi4 (by decide)
        unfold cmut at hi
        have h2 := List.all_eq_true.mp hi q hq
        have hk := (L.1.2.1 q.1 (cRF_lt q hq).1).symm
        have hne : ¬ q.2.1 = b := by
          intro e2
          rw [e1, hc] at hk
          simp [hk, e1, e2] at h2
        rw [va_up_ne _ _ hne, ← e1]
        exact L.1.2.2.2.1 q hq
      · cases hs
    · split at hs
      · rename_i v r st2
        obtain ⟨hc, hs⟩ := mck_some hs
        rw [zh_nx hs]
        refine sk_rI L (sk_ne L (h24 _ ?_ hc.1))
        split at hi
        · rename_i h2 _ _; exact absurd rfl (by assumption)
        · simpa [Nat.blt_eq] using hi
      · cases hs
  case aastore =>
    simp only [mst] at hs
    split at hs
    · obtain ⟨hc, hs⟩ := mck_some hs
      rw [zh_nx hs]
      refine sk_rR L (fun q hq e1 => ?_) (fun z => absurd (hc.1.symm.trans z) (by decide))
      have h1 := cRF_lt q hq
      have hk := L.1.2.1 q.1 h1.1
      rw [e1, hc.1] at hk
      rw [e1] at h1
      exact absurd hk.symm h1.2.2
    · cases hs
  case iastore =>
    simp only [mst] at hs
    split at hs
    · obtain ⟨hc, hs⟩ := mck_some hs
      rw [zh_nx hs]
      exact sk_rI L (sk_ne L (by omega))
    · cases hs
  case bastore =>
    simp only [mst] at hs
    split at hs
    · obtain ⟨hc, hs⟩ := mck_some hs
      rw [zh_nx hs]
      exact sk_rI L (sk_ne L (by omega))
    · cases hs
  case lastore =>
    simp only [mst] at hs
    split at hs
    · obtain ⟨hc, hs⟩ := mck_some hs
      rw [zh_nx hs]
      exact L
    · cases hs
  case invokestatic n =>
    simp only [clw] at hi
    simp only [mst] at hs
    split at hs
    · unfold mcopy at hs
      split at hs
      · split at hs
        · obtain ⟨hc, hs⟩ := mck_some hs
          rw [zh_nx hs]
          exact sk_rI L (sk_ne L (by omega))
        · cases hs
      · cases hs
    · exact sk_call he hi L hs
    · unfold mmath at hs
      (repeat' (split at hs)) <;> first | (cases hs; done) | (rw [zh_nx hs]; exact L)
  case invokevirtual n =>
    simp only [clw] at hi
    simp only [mst] at hs
    split at hs
    · unfold mclone at hs
      split at hs
      · split at hs
        · obtain ⟨hc, hs⟩ := mck_some hs
          rw [zh_nx hs]
          have hN := L.1.1
          exact sk_rI (sk_mA L) (by omega)
        · cases hs
      · cases hs
    · rename_i hd3
      refine sk_callv he ?_ L hs
      split at hi
      · exact absurd rfl hd3
      · exact hi
  case invokespecial n =>
    simp only [clw] at hi
    simp only [mst] at hs
    split at hs
    · (repeat' (split at hs)) <;> first | (cases hs; done) | (rw [zh_nx (mck_some hs).2]; exact L)
    · rename_i hd3
      refine sk_callv he ?_ L hs
      split at hi
      · exact absurd rfl hd3
      · exact hi
  case new n =>
    simp only [mst] at hs
    rw [zh_nx hs]
    exact sk_mA L
  case newarray n =>
    simp only [mst] at hs
    split at hs
    · rw [zh_nx (mck_some hs).2]
      exact sk_mA L
    · cases hs
  case anewarray n =>
    simp only [mst] at hs
    split at hs
    · rw [zh_nx (mck_some hs).2]
      exact sk_mA L
    · cases hs
  all_goals (simp only [mst] at hs <;> (try (cases hs; done)) <;> (repeat' (split at hs)) <;> first
    | (cases hs; done)
    | (rw [zh_nx hs]; exact L)
    | (rw [zh_nx (mck_some hs).2]; exact L)
    | (rw [zh_nx (mst1_some hs).2]; exact L)
    | (rw [zh_nx (mst2_some hs).2]; exact L)
    | (unfold mbr at hs; split at hs <;> (rw [zh_nx hs]; exact L))
    | (cases hs; exact L)
    | (cases (mck_some hs).2; exact L))
theorem mrun_sk {fs : Nat → Int32} {ns : Nat} {ev : ME} {C : List MI} (he : mEk fs ns ev) (hC : ∀ (k : Nat) (i : MI), C[k]? = some i → clw i = true) : ∀ (f k : Nat) (ls : ML) (st : List Value) (h : MH) (v : Value) (h' : MH), mrun ev C f k ls st h = some (v, h') → sk fs ns h → sk fs ns h' := by
  intro f
  induction f with
  | zero => intro k ls st h v h' e; cases e
  | succ f ih =>
    intro k ls st h v h' e L
    rw [mrun] at e
    cases hi : C[k]? with
    | none => rw [hi] at e; cases e
    | some i =>
      rw [hi] at e
      simp only [Option.bind_some] at e
      cases hm : mst i k ls st h ev with
      | none => rw [hm] at e; cases e
      | some z =>
        rw [hm] at e
        have h1 := mst_sk he (hC k i hi) L hm
        match z, e, h1 with
        | .inr r, e, h1 => cases e; exact h1
        | .inl (k2, ls2, st2, h2), e, h1 => exact ih k2 ls2 st2 h2 v h' e h1
/-- every call but a constructor's keeps the fixed cells -/
theorem sk_callm {fs : Nat → Int32} {ns : Nat} : ∀ d, mEk fs ns (mE mtab d) := by
  intro d
  induction d with
  | zero => intro y as h v h' _ e _; cases e
  | succ d ih =>
    intro y as h v h' hk e L
    rw [mE] at e
    dsimp only at e
    cases hq : mtab[y]? with
    | none => rw [hq] at e; cases e
    | some q =>
      rw [hq] at e
      dsimp only at e
      split at e
      · obtain ⟨f, hf⟩ := mX_iff.mp e
        have hall := cmt4_of mtab 0 cmt4_all y q hq (by rwa [Nat.zero_add])
        exact mrun_sk ih (fun k i hi => List.all_eq_true.mp hall i (List.mem_of_getElem? hi)) f _ _ _ _ _ _ hf L
      · cases e
