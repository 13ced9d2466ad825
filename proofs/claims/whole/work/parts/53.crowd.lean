--deps:19.lay 21.facts 22.00.names 22.01.eq 22.02.eq 22.03.eq 22.04.eq 22.05.eq 22.06.eq 22.07.eq 22.08.eq 22.09.eq 22.10.eq 22.11.eq 22.12.eq 22.13.eq 22.14.eq 22.15.eq 22.16.eq 22.17.eq 22.18.eq 22.19.eq 22.20.eq 22.21.eq 22.22.eq 22.23.eq 23.num 24.town 25.evc 26.evm 27.law 28.says 29.inv 30.api1 31.copy 32.api2 33.api3 34.api4 35.api5 36.deeds 37.hours 38.mdeeds 39.mhours 40.hist 41.full 42.acts 43.acts2 44.played 45.undo 46.trial 47.sets 48.sets2 49.image 50.ask 51.swap 52.level
/-! THE CROWD: what there is to say of every set of people -/
set_option linter.unusedSectionVars false
/-- a function by what it says below -/
theorem rec_ex {α : Type} (a0 : α) (F : Nat → (Nat → α) → α) (hF : ∀ S g g', (∀ k, k < S → g k = g' k) → F S g = F S g') : ∃ w : Nat → α, ∀ S, w S = F S w := by
  let tab : Nat → Nat → α := fun k => Nat.rec (fun _ => a0) (fun j t => va_up t j (F j t)) k
  have ts : ∀ k, tab (k + 1) = va_up (tab k) k (F k (tab k)) := fun k => rfl
  have st : ∀ k S, S < k → tab k S = tab (S + 1) S := by
    intro k
    induction k with
    | zero => intro S h; omega
    | succ k ih =>
      intro S h
      by_cases e : S = k
      · subst e; rfl
      · rw [ts, up_o _ _ e]; exact ih S (by omega)
  refine ⟨fun S => tab (S + 1) S, fun S => ?_⟩
  show tab (S + 1) S = _
  rw [ts, up_s]
  exact hF S _ _ (fun k hk => st S k hk)
def anyB (f : Nat → Bool) : Nat → Bool
  | 0 => false
  | k + 1 => anyB f k || f k
theorem anyB_congr {f g : Nat → Bool} {n : Nat} (h : ∀ i, i < n → f i = g i) : anyB f n = anyB g n := by
  induction n with
  | zero => rfl
  | succ n ih => rw [anyB, anyB, ih (fun i hi => h i (by omega)), h n (by omega)]
theorem anyB_ext {f : Nat → Bool} {n m : Nat} (hm : n ≤ m) (h : ∀ i, n ≤ i → i < m → f i = false) : anyB f m = anyB f n := by
  induction m with
  | zero => rw [show n = 0 by omega]
  | succ m ih =>
    by_cases e : n = m + 1
    · rw [e]
    · rw [anyB, h m (by omega) (by omega), Bool.or_false, ih (by omega) (fun i h1 h2 => h i h1 (by omega))]
theorem sumN_ext {f : Nat → Nat} {n m : Nat} (hm : n ≤ m) (h : ∀ i, n ≤ i → i < m → f i = 0) : sumN f m = sumN f n := by
  induction m with
  | zero => rw [show n = 0 by omega]
  | succ m ih =>
    by_cases e : n = m + 1
    · rw [e]
    · rw [sumN_s, h m (by omega) (by omega), Nat.add_zero, ih (by omega) (fun i h1 h2 => h i h1 (by omega))]
def findB (f : Nat → Bool) (no : Int32) : Nat → Nat → Int32
  | 0, _ => no
  | m + 1, i => if f i then nI i else findB f no m (i + 1)
theorem findB_none {f : Nat → Bool} {no : Int32} : ∀ m i, (∀ k, i ≤ k → k < i + m → f k = false) → findB f no m i = no := by
  intro m
  induction m with
  | zero => intro i _; rfl
  | succ m ih =>
    intro i h
    rw [findB, h i (by omega) (by omega), if_neg (by decide)]
    exact ih (i + 1) (fun k h1 h2 => h k (by omega) (by omega))
theorem findB_ext {f : Nat → Bool} {no : Int32} {j : Nat} : ∀ m i, (∀ k, i + m ≤ k → k < i + m + j → f k = false) → findB f no (m + j) i = findB f no m i := by
  intro m
  induction m with
  | zero =>
    intro i h
    rw [Nat.zero_add]
    exact findB_none j i (fun k h1 h2 => h k (by omega) (by omega))
  | succ m ih =>
    intro i h
    rw [show m + 1 + j = m + j + 1 by omega, findB, findB, ih (i + 1) (fun k h1 h2 => h k (by omega) (by omega))]
theorem findB_some {f : Nat → Bool} {no : Int32} : ∀ m i, (∃ k, i ≤ k ∧ k < i + m ∧ f k = true) → ∃ k, i ≤ k ∧ k < i + m ∧ f k = true ∧ findB f no m i = nI k ∧ ∀ j, i ≤ j → j < k → f j = false := by
  intro m
  induction m with
  | zero => rintro i ⟨k, h1, h2, -⟩; omega
  | succ m ih =>
    rintro i ⟨k, h1, h2, h3⟩
    by_cases q : f i = true
    · exact ⟨i, Nat.le_refl _, by omega, q, by rw [findB, if_pos q], fun j a b => by omega⟩
    · have : i ≠ k := fun e => q (by rw [e]; exact h3)
      obtain ⟨k', g1, g2, g3, g4, g5⟩ := ih (i + 1) ⟨k, by omega, by omega, h3⟩
      refine ⟨k', by omega, by omega, g3, by rw [findB, if_neg q]; exact g4, fun j a b => ?_⟩
      by_cases e : j = i
      · subst e; exact Bool.eq_false_iff.mpr q
      · exact g5 j (by omega) b
theorem anyB_iff {f : Nat → Bool} {n : Nat} : anyB f n = true ↔ ∃ k, k < n ∧ f k = true := by
  induction n with
  | zero =>
    constructor
    · intro h; cases h
    · rintro ⟨k, h, _⟩; omega
  | succ n ih =>
    rw [anyB, Bool.or_eq_true, ih]
    constructor
    · rintro (⟨k, h1, h2⟩ | h)
      · exact ⟨k, by omega, h2⟩
      · exact ⟨n, by omega, h⟩
    · rintro ⟨k, h1, h2⟩
      by_cases e : k = n
      · subst e; exact Or.inr h2
      · exact Or.inl ⟨k, by omega, h2⟩
/-- sets of four -/
theorem bit_ge : ∀ S, S < 16 → ∀ p, p < 4 → S.testBit p = true → 2 ^ p ≤ S ∧ S - 2 ^ p < S ∧ popN (S - 2 ^ p) + 1 = popN S := by decide
theorem bit_and : ∀ S, S < 16 → ∀ p, p < 4 → S.testBit p = true → nI S &&& ((1 <<< (nI p &&& 31)) ^^^ (-1)) = nI (S - 2 ^ p) := by decide +kernel
theorem bit_or : ∀ S, S < 16 → ∀ p, p < 4 → S ||| 2 ^ p < 16 := by decide
theorem bit_hi : ∀ n, n ≤ 4 → ∀ S, S < 2 ^ n → ∀ p, p < 4 → n ≤ p → S.testBit p = false := by decide
theorem bit_orn : ∀ n, n ≤ 4 → ∀ S, S < 2 ^ n → ∀ p, p < n → S ||| 2 ^ p < 2 ^ n := by decide
/-- p can leave the set S -/
noncomputable def clB (tz : Nat → Int) (bound : Nat) (S p : Nat) : Bool := S.testBit p && decide ((tz (S - 2 ^ p)).natAbs ≤ bound)
noncomputable def wyF (tz : Nat → Int) (bound : Nat) (S : Nat) (g : Nat → Nat) (k : Nat) : Nat := (if S = 0 then 1 else 0) + sumN (fun p => if clB tz bound S p then g (S - 2 ^ p) else 0) k
noncomputable def wnF (tz : Nat → Int) (bound : Nat) (S : Nat) (g : Nat → Bool) (k : Nat) : Bool := anyB (fun p => clB tz bound S p && !(g (S - 2 ^ p))) k
theorem clB_bit {tz : Nat → Int} {bound S p : Nat} (h : clB tz bound S p = true) : S.testBit p = true := by
  unfold clB at h
  rw [Bool.and_eq_true] at h
  exact h.1
theorem bit_lt {S p : Nat} (h : S.testBit p = true) : S - 2 ^ p < S := by
  have h1 : 0 < 2 ^ p := Nat.two_pow_pos p
  have h2 : 2 ^ p ≤ S := Nat.ge_two_pow_of_testBit h
  omega
theorem wy_ex (tz : Nat → Int) (bound : Nat) : ∃ w : Nat → Nat, ∀ S, w S = wyF tz bound S w 4 := rec_ex 0 (fun S g => wyF tz bound S g 4) (fun S g g' h => by
  unfold wyF
  refine congrArg (fun z => (if S = 0 then 1 else 0) + z) (sumN_congr (fun p _ => ?_))
  by_cases q : clB tz bound S p = true
  · rw [if_pos q, if_pos q, h _ (bit_lt (clB_bit q))]
  · rw [if_neg q, if_neg q])
theorem wn_ex (tz : Nat → Int) (bound : Nat) : ∃ v : Nat → Bool, ∀ S, v S = wnF tz bound S v 4 := rec_ex false (fun S g => wnF tz bound S g 4) (fun S g g' h => by
  unfold wnF
  refine anyB_congr (fun p _ => ?_)
  by_cases q : clB tz bound S p = true
  · rw [q, h _ (bit_lt (clB_bit q))]
  · rw [Bool.eq_false_iff.mpr q]
    rfl)
/-- the class's crowd is laid -/
def WG (k : MH) (n bound : Nat) (tz : Nat → Int) : Prop := gI k 63 3 = nI bound ∧ gI k 63 4 = nI (2 ^ n - 1) ∧ ∀ S, S < 2 ^ n → gI k 64 S = zI (tz S)
def WJ (k : MH) (w : Nat → Nat) (v : Nat → Bool) (i : Nat) : Prop := ∀ S, S < i → gL k 65 S = lN (w S) ∧ gI k 66 S = bz (v S)
def MLv (k : MH) (w : Nat → Nat) (v : Nat → Bool) (i : Nat) : Prop := ∀ S, S < i → gL k 83 S = lN (w S) ∧ gI k 82 S = bz (v S)
theorem bz_or (a b : Bool) : bz a ||| bz b = bz (a || b) := by cases a <;> cases b <;> decide
theorem bz_01 (a : Bool) : bz a = 0 ∨ bz a = 1 := by cases a with
  | false => exact Or.inl rfl
  | true => exact Or.inr rfl
section CROWD
theorem c_canLeave {h : MH} (L : lay h) (d : Nat) {n : Nat} {bound : Nat} {tz : Nat → Int} (hn : n ≤ 4) (hb : bound ≤ 99) (hz : ∀ S, S < 2 ^ n → -1000 < tz S ∧ tz S < 1000) (g : WG h n bound tz) {S p : Nat} (hS : S < 2 ^ n) (hp : p < 4) : F_X1_canLeave (d + 2) (nI S) (nI p) h = some (.int (bz (clB tz bound S p)), h) := by
  have h16 := pow4 hn
  rw [S_X1_canLeave L (d + 1), c_holds L d (by omega) (by omega), cI_some]
  unfold clB
  by_cases q : S.testBit p = true
  · obtain ⟨g1, g2, -⟩ := bit_ge S (by omega) p hp q
    have b1 := hz (S - 2 ^ p) (by omega)
    rw [if_pos q, if_neg i10, one_shl (by omega), pk_sub g1, ck_pos (ib_nI (by omega) (by omega)), ix_nI (by omega), g.2.2 _ (by omega), g.1, zI_abs (by omega), ← nI_zI, q, Bool.true_and]
    by_cases q2 : (tz (S - 2 ^ p)).natAbs ≤ bound
    · rw [if_pos (nI_le q2 (by omega)), decide_eq_true q2]; rfl
    · rw [if_neg (nI_ge (by omega) (by omega)), decide_eq_false q2]; rfl
  · rw [if_neg q, if_pos rfl, Bool.eq_false_iff.mpr q, Bool.false_and]
    rfl
theorem c_judge {h : MH} (L : lay h) (d : Nat) {n : Nat} {bound : Nat} {tz : Nat → Int} (hn : n ≤ 4) (hb : bound ≤ 99) (hz : ∀ S, S < 2 ^ n → -1000 < tz S ∧ tz S < 1000) {w : Nat → Nat} {v : Nat → Bool} (ew : ∀ S, w S = wyF tz bound S w 4) (ev : ∀ S, v S = wnF tz bound S v 4) (g : WG h n bound tz) {S : Nat} (hS : S < 2 ^ n) (j : WJ h w v S) : ∃ h', F_X1_judge (d + 4) (nI S) h = some (.int 0, h') ∧ WG h' n bound tz ∧ WJ h' w v (S + 1) ∧ sm SCR h h' ∧ lay h' := by
  have h16 := pow4 hn
  have lp : ∀ k, lay k → sm SCR h k → WG k n bound tz → WJ k w v S → gL k 65 S = lN (wyF tz bound S w 0) → gI k 66 S = 0 → ∃ h', G_X1_judge_16 (d + 3) (nI S) 0 none k = some (.int 0, h') ∧ WG h' n bound tz ∧ WJ h' w v (S + 1) ∧ sm SCR h h' ∧ lay h' := by
    intro k Lk sk gk jk a1 a2
    obtain ⟨st, ⟨u1, u2, u3, u4, u5, u6⟩, e⟩ := loop_rel (n := 4) (σ := Option Value × MH) (I := fun i st => lay st.2 ∧ sm SCR h st.2 ∧ WG st.2 n bound tz ∧ WJ st.2 w v S ∧ gL st.2 65 S = lN (wyF tz bound S w i) ∧ gI st.2 66 S = bz (wnF tz bound S v i)) (G := fun i st => G_X1_judge_16 (d + 3) (nI S) (nI i) st.1 st.2) (s := (none, k)) (fun i st hi ⟨u1, u2, u3, u4, u5, u6⟩ => by
      have cl := c_canLeave u1 (d + 1) hn hb hz u3 hS hi
      have ey : wyF tz bound S w (i + 1) = wyF tz bound S w i + (if clB tz bound S i then w (S - 2 ^ i) else 0) := by unfold wyF; rw [sumN_s, Nat.add_assoc]
      have en : wnF tz bound S v (i + 1) = (wnF tz bound S v i || (clB tz bound S i && !(v (S - 2 ^ i)))) := rfl
      cases q : clB tz bound S i with
      | false =>
        rw [q, if_neg (by decide), Nat.add_zero] at ey
        rw [q, Bool.false_and, Bool.or_false] at en
        refine ⟨(st.1, st.2), ⟨u1, u2, u3, u4, by rw [ey]; exact u5, by rw [en]; exact u6⟩, ?_⟩
        show G_X1_judge_16 _ _ _ _ _ = G_X1_judge_16 _ _ _ _ _
        rw [S_X1_judge_16 u1 (d + 3), if_pos ((nIl (by omega) (by omega)).mpr hi), cl, cI_some, q, if_pos (show bz false = 0 from rfl), S_X1_judge_56 u1 (d + 3), nI_1]
      | true =>
        rw [q, if_pos rfl] at ey
        rw [q, Bool.true_and] at en
        obtain ⟨g1, g2, -⟩ := bit_ge S (by omega) i hi (clB_bit q)
        obtain ⟨y1, y2⟩ := u4 (S - 2 ^ i) g2
        have L9 : lay (sL st.2 65 S (lN (wyF tz bound S w i + w (S - 2 ^ i)))) := layL u1
        refine ⟨(some (.int (nI (S - 2 ^ i))), sI (sL st.2 65 S (lN (wyF tz bound S w i + w (S - 2 ^ i)))) 66 S (bz (wnF tz bound S v i || !(v (S - 2 ^ i))))), ⟨layI L9 (by decide), ?_, ?_, ?_, ?_, ?_⟩, ?_⟩
        · refine sm_trans u2 (sm_trans ?_ (sm_sI (by decide)))
          exact ⟨rfl, fun _ _ => rfl, fun _ _ _ => rfl⟩
        · unfold WG
          rw [gI_sIo _ _ _ 63 _ (by decide), gI_sIo _ _ _ 64 _ (by decide)]
          exact u3
        · intro T hT
          obtain ⟨z1, z2⟩ := u4 T hT
          rw [gL_sI, gL_sL, if_pos rfl, up_o _ _ (by omega), gI_sIs, up_o _ _ (by omega)]
          exact ⟨z1, z2⟩
        · rw [gL_sI, gL_sL, if_pos rfl, up_s, ey]
        · rw [gI_sIs, up_s, en]
        · show G_X1_judge_16 _ _ _ _ _ = G_X1_judge_16 _ _ _ _ _
          rw [S_X1_judge_16 u1 (d + 3), if_pos ((nIl (by omega) (by omega)).mpr hi), cl, cI_some, q, if_neg bz1, one_shl (by omega), pk_sub g1, lt_def, ck_pos (ib_nI (by omega) (by omega)), ck_pos (ib_nI (by omega) (by omega)), ck_pos (ib_nI (by omega) (by omega)), lt_def, ix_nI (by omega), ix_nI (by omega), u5, y1, lN_add, ck_pos (ib_nI (by omega) (by omega)), ck_pos (ib_nI (by omega) (by omega)), gI_sL, y2, u6]
          have fin : ∀ b : Bool, G_X1_judge_54 (d + 3) (nI S) (nI i) (nI (S - 2 ^ i)) (bz b) (bz (wnF tz bound S v i)) (nI S) (sL st.2 65 S (lN (wyF tz bound S w i + w (S - 2 ^ i)))) = G_X1_judge_16 (d + 3) (nI S) (nI (i + 1)) (some (.int (nI (S - 2 ^ i)))) (sI (sL st.2 65 S (lN (wyF tz bound S w i + w (S - 2 ^ i)))) 66 S (bz (wnF tz bound S v i || b))) := by
            intro b
            rw [S_X1_judge_54 L9 (d + 3), bz_or, ck_pos ⟨ib_nI (by omega) (by omega), bz_01 _⟩, lt_def, ix_nI (by omega), S_X1_judge_56 (layI L9 (by decide)) (d + 3), nI_1]
          cases v (S - 2 ^ i) with
          | true => rw [if_neg bz1]; exact fin false
          | false => rw [if_pos (show bz false = 0 from rfl)]; exact fin true) ⟨Lk, sk, gk, jk, a1, a2⟩
    refine ⟨st.2, ?_, u3, ?_, u2, u1⟩
    · refine (show G_X1_judge_16 (d + 3) (nI S) 0 none k = _ from e).trans ?_
      rw [S_X1_judge_16 u1 (d + 3), if_neg (by decide)]
    · intro T hT
      by_cases q : T = S
      · subst q
        rw [ew T, ev T]
        exact ⟨u5, u6⟩
      · exact u4 T (by omega)
  have go : ∀ s0 : Int64, s0 = lN (wyF tz bound S w 0) → ∃ h', G_X1_judge_8 (d + 3) (nI S) s0 (nI S) h = some (.int 0, h') ∧ WG h' n bound tz ∧ WJ h' w v (S + 1) ∧ sm SCR h h' ∧ lay h' := by
    intro s0 es
    rw [S_X1_judge_8 L (d + 3), ck_pos (ib_nI (by omega) (by omega)), lt_def, ix_nI (by omega), ck_pos (ib_nI (by omega) (by omega)), lt_def]
    have L1 : lay (sL h 65 S s0) := layL L
    refine lp _ (layI L1 (by decide)) (sm_trans ⟨rfl, fun _ _ => rfl, fun _ _ _ => rfl⟩ (sm_sI (by decide))) ?_ ?_ ?_ ?_
    · unfold WG
      rw [gI_sIo _ _ _ 63 _ (by decide), gI_sIo _ _ _ 64 _ (by decide)]
      exact g
    · intro T hT
      obtain ⟨z1, z2⟩ := j T hT
      rw [gL_sI, gL_sL, if_pos rfl, up_o _ _ (by omega), gI_sIs, up_o _ _ (by omega)]
      exact ⟨z1, z2⟩
    · rw [gL_sI, gL_sL, if_pos rfl, up_s, es]
    · rw [gI_sIs, up_s]
  rw [S_X1_judge L (d + 3)]
  by_cases q : S = 0
  · rw [if_pos (show nI S = 0 by rw [q]; rfl)]
    exact go 1 (by unfold wyF; rw [if_pos q]; rfl)
  · rw [if_neg (nI_ne0 (by omega) (by omega))]
    exact go 0 (by unfold wyF; rw [if_neg q]; rfl)
end CROWD
