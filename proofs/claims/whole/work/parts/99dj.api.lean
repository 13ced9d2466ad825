/-! TWO PROGRAMS: where, errands; the law -/
set_option linter.unusedSectionVars false
section LD
variable {ev : ME} {C : List MI} {k : Nat} {ls : ML} {st : List Value} {h : MH} {r : Value × MH} {i : MI}
theorem mX_i (hi : C[k]? = some i) (e : mX ev C k ls st h = some r) : ∃ z, mst i k ls st h ev = some z ∧ mfin ev C (some z) = some r := by
  rw [mX_eq, hi] at e
  simp only [Option.bind_some] at e
  cases hm : mst i k ls st h ev with
  | none => rw [hm] at e; cases e
  | some z =>
    rw [hm] at e
    refine ⟨z, rfl, ?_⟩
    match z, e with
    | .inr q, e => exact e
    | .inl (k2, ls2, st2, h2), e => exact e
theorem ld_i {pc : Nat} {n : Fin 4} {x : Int32} {y : Int64} {sw : List (Int32 × Nat)} {a b c d e0 : Nat} (hi : C[k]? = some (pc, .iload_n n, x, y, sw, a, b, c, d, e0)) (e : mX ev C k ls st h = some r) : ∃ v, ls[a]? = some (some (.int v)) ∧ mX ev C (k + 1) ls (.int v :: st) h = some r := by
  obtain ⟨z, hs, hf⟩ := mX_i hi e
  simp only [mst] at hs
  split at hs
  · rename_i v hv
    unfold nx at hs
    cases hs
    exact ⟨v, hv, hf⟩
  · cases hs
theorem ld_r {pc : Nat} {n : Fin 4} {x : Int32} {y : Int64} {sw : List (Int32 × Nat)} {a b c d e0 : Nat} (hi : C[k]? = some (pc, .aload_n n, x, y, sw, a, b, c, d, e0)) (e : mX ev C k ls st h = some r) : ∃ v, ls[a]? = some (some (.ref v)) ∧ mX ev C (k + 1) ls (.ref v :: st) h = some r := by
  obtain ⟨z, hs, hf⟩ := mX_i hi e
  simp only [mst] at hs
  split at hs
  · rename_i v hv
    unfold nx at hs
    cases hs
    exact ⟨v, hv, hf⟩
  · cases hs
/-- an instruction that goes on to the next and leaves the locals -/
def pl (i : MI) : Bool := match i with
  | (_, ins, _, _, _, _, _, _, d, _) => match ins with
    | .aload_n _ => true
    | .iload_n _ => true
    | .getfield _ => true
    | .invokevirtual _ => Nat.beq d 0
    | _ => false
theorem ad_cl {o : Option (Value × MH)} {rk : Nat} {z : MZ} (e : mcl o rk k ls st = some z) : ∃ st' h', z = .inl (k, ls, st', h') := by
  unfold mcl nx at e
  split at e <;> split at e <;> first | (cases e; done) | (cases e; exact ⟨_, _, rfl⟩)
theorem adv {z : MZ} (hp : pl i = true) (hs : mst i k ls st h ev = some z) : ∃ st' h', z = .inl (k + 1, ls, st', h') := by
  obtain ⟨pc, ins, x, y, sw, a, b, c, d, e⟩ := i
  cases ins <;> first | (cases hp; done) | skip
  case aload_n n =>
    simp only [mst] at hs
    split at hs
    · unfold nx at hs; cases hs; exact ⟨_, _, rfl⟩
    · cases hs
  case iload_n n =>
    simp only [mst] at hs
    split at hs
    · unfold nx at hs; cases hs; exact ⟨_, _, rfl⟩
    · cases hs
  case getfield n =>
    simp only [mst] at hs
    split at hs
    · have hs := (mck_some hs).2
      unfold nx at hs; cases hs; exact ⟨_, _, rfl⟩
    · cases hs
  case invokevirtual n =>
    have hd : d = 0 := Nat.eq_of_beq_eq_true hp
    subst hd
    have hs : mcallv (pc, .invokevirtual n, x, y, sw, a, b, c, 0, e) k ls st h ev = some z := hs
    unfold mcallv at hs
    dsimp only at hs
    split at hs
    · have hs := (mck_some hs).2
      unfold mcall at hs
      dsimp only at hs
      split at hs
      · exact ad_cl hs
      · cases hs
    · cases hs
theorem adv_n : ∀ (n k : Nat) (st : List Value) (h : MH), (∀ j, j < n → ∃ i, C[k + j]? = some i ∧ pl i = true) → mX ev C k ls st h = some r → ∃ st' h', mX ev C (k + n) ls st' h' = some r := by
  intro n
  induction n with
  | zero => intro k st h _ e; exact ⟨st, h, e⟩
  | succ n ih =>
    intro k st h hp e
    obtain ⟨i, hi, hq⟩ := hp 0 (by omega)
    obtain ⟨z, hs, hf⟩ := mX_i hi e
    obtain ⟨st', h', rfl⟩ := adv hq hs
    obtain ⟨s2, h2, q⟩ := ih (k + 1) st' h' (fun j hj => by
      obtain ⟨i, hi, hq⟩ := hp (j + 1) (by omega)
      exact ⟨i, by rw [← hi]; congr 1; omega, hq⟩) hf
    exact ⟨s2, h2, by rw [← q]; congr 1; omega⟩
end LD
def plat (C : List MI) (k : Nat) : Bool := match C[k]? with
  | some i => pl i
  | none => false
theorem plat_of {C : List MI} {k : Nat} (h : plat C k = true) : ∃ i, C[k]? = some i ∧ pl i = true := by
  unfold plat at h
  cases hi : C[k]? with
  | none => rw [hi] at h; cases h
  | some i => rw [hi] at h; exact ⟨i, rfl, h⟩
theorem pl_w : ∀ j, j < 10 → plat KX10_where (0 + j) = true := by decide +kernel
theorem pl_e : ∀ j, j < 10 → plat KX10_errands (5 + j) = true := by decide +kernel
theorem shape2 {as : List Value} {a0 : Nat} {a1 : Int32} (hl : (mL0 as).length ≤ 2) (h0 : (mL as 2)[0]? = some (some (.ref a0))) (h1 : (mL as 2)[1]? = some (some (.int a1))) : as = [.ref a0, .int a1] := by
  cases as with
  | nil => cases h0
  | cons v l =>
    cases v <;> first | (cases h0; done) | skip
    cases l with
    | nil => cases h1
    | cons w l =>
      cases w <;> first | (cases h1; done) | skip
      cases h0
      cases h1
      cases l with
      | nil => rfl
      | cons u l =>
        exfalso
        revert hl
        cases u <;> (simp only [mL0, List.length_cons]; omega)
theorem shape3 {as : List Value} {a0 : Nat} {a1 a2 : Int32} (hl : (mL0 as).length ≤ 3) (h0 : (mL as 3)[0]? = some (some (.ref a0))) (h1 : (mL as 3)[1]? = some (some (.int a1))) (h2 : (mL as 3)[2]? = some (some (.int a2))) : as = [.ref a0, .int a1, .int a2] := by
  cases as with
  | nil => cases h0
  | cons v l =>
    cases v <;> first | (cases h0; done) | skip
    cases l with
    | nil => cases h1
    | cons w l =>
      cases w <;> first | (cases h1; done) | skip
      cases l with
      | nil => cases h2
      | cons t l =>
        cases t <;> first | (cases h2; done) | skip
        cases h0
        cases h1
        cases h2
        cases l with
        | nil => rfl
        | cons u l =>
          exfalso
          revert hl
          cases u <;> (simp only [mL0, List.length_cons]; omega)
theorem mE_at {tb : List MT} {d y : Nat} {as : List Value} {h : MH} {r : Value × MH} {q : MT} (hq : tb[y]? = some q) (e : mE tb (d + 1) y as h = some r) : (mL0 as).length ≤ q.2.2.1 ∧ mX (mE tb d) q.2.2.2.2 0 (mL as q.2.2.1) [] h = some r := by
  rw [mE] at e
  dsimp only at e
  rw [hq] at e
  dsimp only at e
  split at e
  · rename_i hb; exact ⟨Nat.le_of_ble_eq_true hb, e⟩
  · cases e
section AP
variable {m : MU} {h g : MH}
theorem at8k (S : SS m h g) {a b : Nat} (e : m a = some b) (hk : kd h a = 11) : a = 8 ∧ b = 8 := by
  have e8 := (SS_c S e).2.2.2 hk
  subst e8
  rw [S.2.1.1] at e
  exact ⟨rfl, (Option.some.inj e).symm⟩
theorem s_where {d D : Nat} (hD : d ≤ D) (hD0 : 1 ≤ D) {as as' : List Value} {v : Value} {h' : MH} (e : mE mtab (d + 1) 255 as h = some (v, h')) (S : SS m h g) (A : Rs m as as') : ∃ m' v' g', mE jtab (D + 2) 255 as' g = some (v', g') ∧ ml m m' ∧ SS m' h' g' ∧ Rv m' v v' := by
  obtain ⟨hl, hx⟩ := mE_at (q := (yX10_where, cX10_where, 2, (some .int), KX10_where)) rfl e
  obtain ⟨a0, h0, -⟩ := ld_r (C := KX10_where) rfl hx
  obtain ⟨s1, h1, hx1⟩ := adv_n (C := KX10_where) 10 0 _ _ (fun j hj => plat_of (pl_w j hj)) hx
  obtain ⟨a1, h1', -⟩ := ld_i (C := KX10_where) rfl hx1
  obtain rfl := shape2 hl h0 h1'
  (replace A := Rs_r A; obtain ⟨b0, w, rfl, e0, A⟩ := A)
  (replace A := Rs_i A; obtain ⟨w, rfl, A⟩ := A)
  obtain rfl := Rs_n A
  rw [D_X10_where] at e
  obtain ⟨k8, e⟩ := ck_some e
  obtain ⟨rfl, rfl⟩ := at8k S e0 k8
  obtain ⟨-, e⟩ := ck_some e
  obtain ⟨k0, e⟩ := ck_some e
  obtain ⟨k2, e⟩ := ck_some e
  cases c1 : mE mtab d 225 [.ref (gR h 8 2), .ref (gR h (gR h 8 0) 0)] h with
  | none => rw [c1] at e; cases e
  | some p =>
    obtain ⟨v1, h1⟩ := p
    rw [c1, cV_some] at e
    obtain ⟨-, e⟩ := ck_some e
    obtain ⟨-, e⟩ := ck_some e
    obtain ⟨k6, e⟩ := ck_some e
    cases c2 : mE mtab d 239 [.ref (gR h1 8 5), .ref (gR h1 8 2), .int a1, .int 0] h1 with
    | none => rw [c2] at e; cases e
    | some p =>
      obtain ⟨v2, h2⟩ := p
      rw [c2, cV_some] at e
      obtain ⟨-, e⟩ := ck_some e
      obtain ⟨k9, e⟩ := ck_some e
      cases e
      obtain ⟨m', g', q1, q2, q3, q4⟩ := expl hD hD0 S k0 k2 c1 k6 c2
      have r5 : gR h' 8 5 = 60 := q3.2.1.2.2.1
      rw [r5] at k9 ⊢
      refine ⟨m', _, g', ?_, q2, q3, rfl⟩
      rw [E_X10_where, ck_pos ((SS_kd S S.2.1.1).trans S.2.1.2.1), q1, cR_some, ck_pos ((SS_kd q3 q4).trans k9), SS_gI q3 q4]
theorem s_errands {d D : Nat} (hD : d ≤ D) (hD0 : 1 ≤ D) {as as' : List Value} {v : Value} {h' : MH} (e : mE mtab (d + 1) 242 as h = some (v, h')) (S : SS m h g) (A : Rs m as as') : ∃ m' v' g', mE jtab (D + 2) 242 as' g = some (v', g') ∧ ml m m' ∧ SS m' h' g' ∧ Rv m' v v' := by
  obtain ⟨hl, hx⟩ := mE_at (q := (yX10_errands, cX10_errands, 3, (some .int), KX10_errands)) rfl e
  obtain ⟨a2, h2, hx0⟩ := ld_i (C := KX10_errands) rfl hx
  have hx2 : mX (mE mtab d) KX10_errands 0 (mL as 3) [] h = if a2 < (-1) then some (.int (-2), h) else mX (mE mtab d) KX10_errands 5 (mL as 3) [] h := by
    have o0 : mone (mE mtab d) KX10_errands 0 (mL as 3) [] h = nx 1 (mL as 3) [.int a2] h := by
      show (match (mL as 3)[2]? with | some (some (.int v)) => nx 1 (mL as 3) (.int v :: []) h | _ => none) = _
      rw [h2]
    rw [mX_one o0, mfin_nx]
    refine mX_to 1 (k' := 2) (ls' := mL as 3) (st' := [.int (-1), .int a2]) (h' := h) rfl ?_
    refine mX_br (t := 3) (f := 5) (ls' := mL as 3) (st' := []) (h' := h) (c := a2 < (-1)) rfl ?_ rfl
    refine mX_to 1 (k' := 4) (ls' := mL as 3) (st' := [.int (-2)]) (h' := h) rfl ?_
    rw [mX_one (o := some (.inr (.int (-2), h))) (by
      show mck (mrt 0 (-2)) (some (.inr (.int (-2), h))) = _
      exact mck_pos (c := mrt 0 (-2)) trivial)]
    rfl
  by_cases c : a2 < (-1)
  · have ev : v = .int (-2) ∧ h' = h := by
      rw [hx2, if_pos c] at hx
      cases hx
      exact ⟨rfl, rfl⟩
    obtain ⟨rfl, rfl⟩ := ev
    have L := Rl_mL A 4
    have l4 : (mL as 4)[2]? = some (some (.int a2)) := by
      have l3 : (mL as 3)[2]? = some (some (.int a2)) := h2
      unfold mL at l3 ⊢
      have h3 : 2 < (mL0 as).length := by
        rcases Nat.lt_or_ge 2 (mL0 as).length with q | q
        · exact q
        · rw [List.getElem?_append_right q, List.getElem?_replicate] at l3
          split at l3 <;> cases l3
      rw [List.getElem?_append_left h3] at l3 ⊢
      exact l3
    have l4' : (mL as' 4)[2]? = some (some (.int a2)) := by
      rcases Rl_at L 2 with ⟨e1, -⟩ | ⟨e1, -⟩ | ⟨v, w, e1, e2, rv⟩
      · rw [l4] at e1; cases e1
      · rw [l4] at e1; cases e1
      · rw [l4] at e1
        cases e1
        have rv : w = _ := rv
        rw [e2, rv]
    refine ⟨m, .int (-2), g, ?_, ml_rf, S, rfl⟩
    rw [mE]
    dsimp only
    rw [show jtab[242]? = some (yX10_errands, cX10_errands, 4, (some .int), JX10_errands) from rfl]
    dsimp only
    rw [Rl_len (Rl_mL0 A), show Nat.ble (mL0 as).length 4 = true from Nat.ble_eq.mpr (Nat.le_trans hl (by decide))]
    dsimp only
    have o0 : mone (mE jtab (D + 1)) JX10_errands 0 (mL as' 4) [] g = nx 1 (mL as' 4) [.int a2] g := by
      show (match (mL as' 4)[2]? with | some (some (.int v)) => nx 1 (mL as' 4) (.int v :: []) g | _ => none) = _
      rw [l4']
    rw [mX_one o0, mfin_nx]
    refine mX_to 1 (k' := 2) (ls' := mL as' 4) (st' := [.int (-1), .int a2]) (h' := g) rfl ?_
    refine (mX_br (t := 3) (f := 5) (ls' := mL as' 4) (st' := []) (h' := g) (c := a2 < (-1)) rfl rfl rfl).trans ?_
    rw [if_pos c]
    refine mX_to 1 (k' := 4) (ls' := mL as' 4) (st' := [.int (-2)]) (h' := g) rfl ?_
    rw [mX_one (o := some (.inr (.int (-2), g))) (by
      show mck (mrt 0 (-2)) (some (.inr (.int (-2), g))) = _
      exact mck_pos (c := mrt 0 (-2)) trivial)]
    rfl
  · have hx5 := hx
    rw [hx2, if_neg c] at hx5
    obtain ⟨a0, h0, -⟩ := ld_r (C := KX10_errands) rfl hx5
    obtain ⟨s1, h1, hx1⟩ := adv_n (C := KX10_errands) 10 5 _ _ (fun j hj => plat_of (pl_e j hj)) hx5
    obtain ⟨a1, h1', -⟩ := ld_i (C := KX10_errands) rfl hx1
    obtain rfl := shape3 hl h0 h1' h2
    (replace A := Rs_r A; obtain ⟨b0, w, rfl, e0, A⟩ := A)
    (replace A := Rs_i A; obtain ⟨w, rfl, A⟩ := A)
    (replace A := Rs_i A; obtain ⟨w, rfl, A⟩ := A)
    obtain rfl := Rs_n A
    rw [D_X10_errands, if_neg c] at e
    obtain ⟨k8, e⟩ := ck_some e
    obtain ⟨rfl, rfl⟩ := at8k S e0 k8
    obtain ⟨-, e⟩ := ck_some e
    obtain ⟨k0, e⟩ := ck_some e
    obtain ⟨k2, e⟩ := ck_some e
    cases c1 : mE mtab d 225 [.ref (gR h 8 2), .ref (gR h (gR h 8 0) 0)] h with
    | none => rw [c1] at e; cases e
    | some p =>
      obtain ⟨v1, h1⟩ := p
      rw [c1, cV_some] at e
      obtain ⟨-, e⟩ := ck_some e
      obtain ⟨-, e⟩ := ck_some e
      obtain ⟨k6, e⟩ := ck_some e
      cases c2 : mE mtab d 239 [.ref (gR h1 8 5), .ref (gR h1 8 2), .int a1, .int 1] h1 with
      | none => rw [c2] at e; cases e
      | some p =>
        obtain ⟨v2, h3⟩ := p
        rw [c2, cV_some] at e
        obtain ⟨m', g', q1, q2, q3, q4⟩ := expl hD hD0 S k0 k2 c1 k6 c2
        have r5 : gR h3 8 5 = 60 := q3.2.1.2.2.1
        rw [r5] at e
        rw [E_X10_errands, if_neg c, ck_pos ((SS_kd S S.2.1.1).trans S.2.1.2.1), q1, cR_some]
        by_cases c5 : a2 = (-1)
        · rw [if_pos c5] at e ⊢
          obtain ⟨-, e⟩ := ck_some e
          obtain ⟨k9, e⟩ := ck_some e
          rw [ck_pos ((SS_kd q3 q4).trans k9)]
          cases c3 : mE mtab d 240 [.ref 60] h3 with
          | none => rw [c3] at e; cases e
          | some p =>
            obtain ⟨v3, h4⟩ := p
            rw [c3] at e
            obtain ⟨m2, v3', g2, u1, u2, u3, u4⟩ := sim_call d (D + 1) (by omega) 240 _ [.ref (gR g' 8 6)] h3 g' v3 h4 m' rfl c3 q3 (Rs_cr q4 rfl)
            rw [u1]
            cases v3 <;> first | (cases e; done) | skip
            have u4 : v3' = _ := u4
            subst u4
            cases e
            exact ⟨m2, _, g2, rfl, ml_tr q2 u2, u3, rfl⟩
        · rw [if_neg c5] at e ⊢
          obtain ⟨-, e⟩ := ck_some e
          obtain ⟨k9, e⟩ := ck_some e
          rw [ck_pos ((SS_kd q3 q4).trans k9)]
          cases c3 : mE mtab d 241 [.ref 60, .int a2] h3 with
          | none => rw [c3] at e; cases e
          | some p =>
            obtain ⟨v3, h4⟩ := p
            rw [c3] at e
            obtain ⟨m2, v3', g2, u1, u2, u3, u4⟩ := sim_call d (D + 1) (by omega) 241 _ [.ref (gR g' 8 6), .int a2] h3 g' v3 h4 m' rfl c3 q3 (Rs_cr q4 (Rs_ci rfl))
            rw [u1]
            cases v3 <;> first | (cases e; done) | skip
            have u4 : v3' = _ := u4
            subst u4
            cases e
            exact ⟨m2, _, g2, rfl, ml_tr q2 u2, u3, rfl⟩
end AP
theorem sim_api : SE okA (mE mtab 100) (mE jtab 102) := by
  intro y as as' h g v h' m hy e S A
  by_cases c1 : y = 255
  · subst c1
    exact s_where (d := 99) (D := 100) (by decide) (by decide) e S A
  · by_cases c2 : y = 242
    · subst c2
      exact s_errands (d := 99) (D := 100) (by decide) (by decide) e S A
    · refine sim_call 100 102 (by decide) y as as' h g v h' m ?_ e S A
      unfold okl
      unfold okA at hy
      have n1 : Nat.beq y 242 = false := by
        cases hb : Nat.beq y 242 with
        | false => rfl
        | true => exact absurd (Nat.eq_of_beq_eq_true hb) c2
      have n2 : Nat.beq y 255 = false := by
        cases hb : Nat.beq y 255 with
        | false => rfl
        | true => exact absurd (Nat.eq_of_beq_eq_true hb) c1
      rw [n1, n2, Bool.or_false, Bool.or_false]
      exact hy
