--deps:19.lay 21.facts 22.00.names 22.01.eq 22.02.eq 22.03.eq 22.04.eq 22.05.eq 22.06.eq 22.07.eq 22.08.eq 22.09.eq 22.10.eq 22.11.eq 22.12.eq 22.13.eq 22.14.eq 22.15.eq 22.16.eq 22.17.eq 22.18.eq 22.19.eq 22.20.eq 22.21.eq 22.22.eq 22.23.eq 23.num 24.town 25.evc 26.evm 27.law 28.says 29.inv 30.api1 31.copy 32.api2 33.api3
/-! QUESTIONS: lone, halves, cat, swap -/
set_option linter.unusedSectionVars false
/-- the first least below i+1 -/
def amn (f : Nat → Nat) : Nat → Nat
  | 0 => 0
  | n + 1 => if f (n + 1) < f (amn f n) then n + 1 else amn f n
theorem amn_le (f : Nat → Nat) (n : Nat) : amn f n ≤ n := by
  induction n with
  | zero => exact Nat.le_refl 0
  | succ n ih => rw [amn]; split <;> omega
def lonF (n : Nat) (P : Nat → Nat) : Nat → Nat
  | 0 => 0
  | k + 1 => lonF n P k ||| (if popN (setN (fun p => P p == k) n) = 1 then setN (fun p => P p == k) n else 0)
theorem lon_bit (n : Nat) (P : Nat → Nat) (p k : Nat) : (lonF n P k).testBit p = (decide (P p < k) && (decide (p < n) && decide (popN (setN (fun p' => P p' == P p) n) = 1))) := by
  induction k with
  | zero => simp [lonF]
  | succ k ih =>
    rw [lonF, Nat.testBit_or, ih]
    have e : (if popN (setN (fun p => P p == k) n) = 1 then setN (fun p => P p == k) n else 0).testBit p = (decide (popN (setN (fun p => P p == k) n) = 1) && (decide (p < n) && (P p == k))) := by
      split
      · rename_i hp; rw [setN_bit]; simp [hp]
      · rename_i hp; simp [hp]
    rw [e]
    by_cases hk : P p = k
    · subst hk
      simp [Bool.and_comm, Bool.and_left_comm]
    · have h1 : (P p == k) = false := beq_false_of_ne hk
      rw [h1]
      by_cases hl : P p < k
      · simp [hl, show P p < k + 1 by omega]
      · simp [hl, show ¬ P p < k + 1 by omega]
theorem lon_eq {n : Nat} {P : Nat → Nat} (hP : ∀ p, p < n → P p ≤ 8) : lonF n P 9 = setN (fun p => decide (popN (setN (fun p' => P p' == P p) n) = 1)) n := by
  apply Nat.eq_of_testBit_eq
  intro p
  rw [lon_bit, setN_bit]
  by_cases hp : p < n
  · simp [hp, show P p < 9 by have := hP p hp; omega]
  · simp [hp]
theorem lon_lt (n : Nat) (P : Nat → Nat) (k : Nat) : lonF n P k < 2 ^ n := by
  induction k with
  | zero => exact Nat.two_pow_pos n
  | succ k ih =>
    rw [lonF]
    apply Nat.or_lt_two_pow ih
    split
    · exact setN_lt _ _
    · exact Nat.two_pow_pos n
theorem pow4 {n : Nat} (h : n ≤ 4) : 2 ^ n ≤ 16 := Nat.pow_le_pow_right (n := 2) (by decide) h
section API4
theorem A_lone {c : Nat} {h : MH} (I : INV c h) (d : Nat) : AGI c (F_X10_lone (d + 3)) (F_X11_lone (d + 3)) h := by
  have L := I.1
  obtain ⟨_, ⟨n, W, P, SN, H, X, wr, tn, N, K⟩, M, R⟩ := id I
  have t := NOW_t N
  have m := NOW_m N
  have hn := t.1
  have h4 := pow4 hn
  have hP : ∀ p, p < n → P p ≤ 8 := fun p hp => (t.2.2.2.1 p hp).2
  have sl : ∀ f, setN f n < 16 := fun f => by have := setN_lt f n; omega
  refine ⟨nI (lonF n P 9), h, h, ?_, ?_, I⟩
  · rw [S_X10_lone L (d + 2)]
    obtain ⟨o, -, e⟩ := loop_rel (n := 9) (I := fun _ _ => True) (G := fun i (o : Option Value) => G_X10_lone_4 (d + 2) (nI (lonF n P i)) (nI i) o h) (s := none) (fun i o hi _ => by
      refine ⟨some (.int (nI (setN (fun p => P p == i) n))), trivial, ?_⟩
      have b1 := sl (fun p => P p == i)
      have b2 := lon_lt n P i
      have b3 : popN (setN (fun p => P p == i) n) < 2 ^ 31 := by unfold popN; omega
      rw [S_X10_lone_4 L (d + 2), if_pos ((nIl (by omega) (by omega)).mpr hi), c_peopleAt L (d + 1) tAt10 t hi, cI_some, bc_pop _ b1, cI_some, S_X10_lone_21 L, S_X10_lone_21 L, nI_1, lonF, or_nI (by omega) (by omega)]
      by_cases q : popN (setN (fun p => P p == i) n) = 1
      · rw [if_pos (show nI (popN (setN (fun p => P p == i) n)) = 1 by rw [q]; rfl), if_pos q]
      · rw [if_neg (fun w => q ((nIe b3 (by omega)).mp w)), if_neg q, Nat.or_zero]) trivial
    refine e.trans ?_
    rw [S_X10_lone_4 L (d + 2), if_neg (by decide)]
  · rw [S_X11_lone L (d + 2), lon_eq hP]
    refine (loop_all (n := n) (F := fun i => G_X11_lone_4 (d + 2) (nI (setN (fun p => decide (popN (setN (fun p' => P p' == P p) n) = 1)) i)) (nI i) h) (fun i hi => ?_)).trans ?_
    · show G_X11_lone_4 _ _ _ _ = _
      have b1 := sl (fun p => P p == P i)
      have b2 := setN_lt (fun p => decide (popN (setN (fun p' => P p' == P p) n) = 1)) i
      have b3 : popN (setN (fun p => P p == P i) n) < 2 ^ 31 := by unfold popN; omega
      have b4 := pow4 (n := i) (by omega)
      have b5 := hP i hi
      rw [S_X11_lone_4 L (d + 2), m.2.1, if_pos (nI_lt hi (by omega)), nIa, ck_pos (ib_nI (by omega) (by omega)), ix_nI (by omega), (m.2.2.2.1 i hi).1, m_peopleIn L (d + 1) m (by omega), cI_some, m_bits L (d + 1) b1, cI_some, S_X11_lone_27 L, S_X11_lone_27 L, nI_1, ← setN_or, one_shl (by omega), or_nI (by omega) (by omega)]
      by_cases q : popN (setN (fun p => P p == P i) n) = 1
      · rw [if_pos (show nI (popN (setN (fun p => P p == P i) n)) = 1 by rw [q]; rfl), decide_eq_true q, if_pos rfl]
      · rw [if_neg (fun w => q ((nIe b3 (by omega)).mp w)), decide_eq_false q, if_neg (by decide), Nat.or_zero]
        congr 1
        exact Int32.or_zero
    · show G_X11_lone_4 _ _ _ _ = _
      rw [S_X11_lone_4 L (d + 2), m.2.1, if_neg (nI_nlt (Nat.le_refl _) (by omega))]
theorem A_halves {c : Nat} {h : MH} (I : INV c h) (d : Nat) (a : Int32) : AGI c (F_X10_halves (d + 4) a) (F_X11_halves (d + 4) a) h := by
  have L := I.1
  obtain ⟨_, ⟨n, W, P, SN, H, X, wr, tn, N, K⟩, M, R⟩ := id I
  have t := NOW_t N
  have m := NOW_m N
  have hn := t.1
  have h4 := pow4 hn
  have hp2 := Nat.two_pow_pos n
  by_cases hw : ¬ (0 ≤ a ∧ a ≤ 1)
  · refine ⟨-1, h, h, ?_, ?_, I⟩
    · rw [S_X10_halves L (d + 3), c_within L, cI_some, bI_neg hw, if_pos rfl]
    · rw [S_X11_halves L (d + 3), m_isIn L, cI_some, bI_neg hw, if_pos rfl]
  replace hw := Classical.not_not.mp hw
  have wb : ∀ s : Nat, sumN (fun p => if s.testBit p then W p else 0) n ≤ 9 * n := fun s => sumN_le (fun i hi => by
    have := (t.2.2.1 i hi).2
    split <;> omega)
  have wc : ∀ s, s < 2 ^ 31 → F_X9_weightOf (d + 3) 10 (nI s) h = some (.int (nI (sumN (fun p => if s.testBit p then W p else 0) n)), h) := fun s hs => c_weightOf L (d + 1) tAt10 t hs
  have wm : ∀ s, s < 2 ^ 31 → F_X11_weightOf (d + 2) (nI s) h = some (.int (nI (sumN (fun p => if s.testBit p then W p else 0) n)), h) := fun s hs => m_weightOf L d m hs
  have w0 : sumN (fun p => if (0 : Nat).testBit p then W p else 0) n = 0 := by
    have := sumN_le (f := fun p => if (0 : Nat).testBit p then W p else 0) (n := n) (b := 0) (fun i hi => by simp)
    omega
  generalize hg : (fun s : Nat => sumN (fun p => if s.testBit p then W p else 0) n) = g
  have wb' : ∀ s, g s ≤ 36 := fun s => by rw [← hg]; have := wb s; dsimp only; omega
  have wc' : ∀ s, s < 2 ^ 31 → F_X9_weightOf (d + 3) 10 (nI s) h = some (.int (nI (g s)), h) := fun s hs => by rw [wc s hs, ← hg]
  have wm' : ∀ s, s < 2 ^ 31 → F_X11_weightOf (d + 2) (nI s) h = some (.int (nI (g s)), h) := fun s hs => by rw [wm s hs, ← hg]
  have g0 : g 0 = 0 := by rw [← hg]; exact w0
  clear wb wc wm w0 hg
  have mo : ∀ s, s < 2 ^ 31 → F_X11_moreOf (d + 3) (nI s) h = some (.int (nI ((g (2 ^ n - 1) : Int) - 2 * g s).natAbs), h) := by
    intro s hs
    have b1 := wb' s
    have b2 := wb' (2 ^ n - 1)
    rw [S_X11_moreOf L (d + 2), wm' s hs, cI_some, m_everyone L (d + 1) m, cI_some, wm' _ (by omega), cI_some, show (2 : Int32) * nI (g s) - nI (g (2 ^ n - 1)) = zI (2 * (g s : Int) - g (2 ^ n - 1)) by simp only [nI_zI, lit_zI, zI_add, zI_mul, zI_sub, zI_neg, if_true, if_false, Bool.false_eq_true]; rfl, m_size L (d + 1) (by omega), cI_some, ← nI_zI]
    congr 4
    omega
  have fb : ∀ s, ((g (2 ^ n - 1) : Int) - 2 * g s).natAbs < 1000 := fun s => by
    have b1 := wb' s
    have b2 := wb' (2 ^ n - 1)
    omega
  generalize hf : (fun s : Nat => ((g (2 ^ n - 1) : Int) - 2 * g s).natAbs) = f
  have mo' : ∀ s, s < 2 ^ 31 → F_X11_moreOf (d + 3) (nI s) h = some (.int (nI (f s)), h) := fun s hs => by rw [mo s hs, ← hf]
  have fb' : ∀ s, f s < 1000 := fun s => by rw [← hf]; exact fb s
  have f0 : f 0 = g (2 ^ n - 1) := by rw [← hf]; dsimp only; rw [g0]; omega
  have fg : ∀ s, jabs (nI (g (2 ^ n - 1)) - 2 * nI (g s)) = nI (f s) := by
    intro s
    have b1 := wb' s
    have b2 := wb' (2 ^ n - 1)
    rw [show nI (g (2 ^ n - 1)) - 2 * nI (g s) = zI ((g (2 ^ n - 1) : Int) - 2 * g s) by simp only [nI_zI, lit_zI, zI_add, zI_mul, zI_sub, zI_neg, if_true, if_false, Bool.false_eq_true]; rfl, zI_abs (by omega), ← nI_zI, ← hf]
  refine ⟨if a = 0 then nI (f (amn f (2 ^ n - 1))) else nI (amn f (2 ^ n - 1)), h, h, ?_, ?_, I⟩
  · rw [S_X10_halves L (d + 3), c_within L, cI_some, bI_pos hw, if_neg i10, lt_def, show gI h 10 0 = nI n from t.2.1, one_shl (by omega), show (1 : Int32) = nI 1 from rfl, pk_sub hp2, wc' _ (by omega), cI_some, ← f0]
    -- the set 0 changes nothing
    have e0 : G_X10_halves_28 (d + 3) a (nI (2 ^ n - 1)) (nI (f 0)) (nI (f 0)) 0 0 none h = G_X10_halves_28 (d + 3) a (nI (2 ^ n - 1)) (nI (f 0)) (nI (f (amn f 0))) (nI (amn f 0)) (nI (0 + 1)) (some (.int (nI (f 0)))) h := by
      rw [S_X10_halves_28 L (d + 3), if_pos (show (0 : Int32) ≤ nI (2 ^ n - 1) from nI_le (a := 0) (by omega) (by omega)), show (0 : Int32) = nI 0 from rfl, wc' 0 (by omega), cI_some, lt_def, f0, fg 0, f0, if_neg (nI_nlt (Nat.le_refl _) (by have := wb' (2 ^ n - 1); omega)), S_X10_halves_49 L, nI_1]
      show G_X10_halves_28 _ _ _ _ _ _ _ _ _ = G_X10_halves_28 _ _ _ _ (nI (f 0)) _ _ _ _
      rw [f0]
      rfl
    refine e0.trans ?_
    obtain ⟨o, -, e⟩ := loop_rel (n := 2 ^ n - 1) (I := fun _ _ => True) (G := fun i (o : Option Value) => G_X10_halves_28 (d + 3) a (nI (2 ^ n - 1)) (nI (f 0)) (nI (f (amn f i))) (nI (amn f i)) (nI (i + 1)) o h) (s := some (.int (nI (f 0)))) (fun i o hi _ => by
      refine ⟨some (.int (nI (f (i + 1)))), trivial, ?_⟩
      have b1 := fb' (i + 1)
      have b2 := fb' (amn f i)
      rw [S_X10_halves_28 L (d + 3), if_pos (nI_le (by omega) (by omega)), wc' (i + 1) (by omega), cI_some, lt_def, f0, fg (i + 1), S_X10_halves_49 L, S_X10_halves_49 L, nI_1, amn]
      by_cases q : f (i + 1) < f (amn f i)
      · rw [if_pos (nI_lt q (by omega)), if_pos q]
      · rw [if_neg (nI_nlt (by omega) (by omega)), if_neg q]) trivial
    refine e.trans ?_
    rw [S_X10_halves_28 L (d + 3), if_neg (nI_ge (by omega) (by omega))]
    split <;> rfl
  · rw [S_X11_halves L (d + 3), m_isIn L, cI_some, bI_pos hw, if_neg i10]
    refine (loop_all (n := 2 ^ n - 1) (F := fun i => G_X11_halves_11 (d + 3) a (nI (amn f i)) (nI (i + 1)) h) (fun i hi => ?_)).trans ?_
    · show G_X11_halves_11 _ _ _ _ _ = _
      have b1 := fb' (i + 1)
      have b2 := fb' (amn f i)
      have b3 := amn_le f i
      rw [S_X11_halves_11 L (d + 3), m_everyone L (d + 2) m, cI_some, if_pos (nI_le (by omega) (by omega)), mo' _ (by omega), cI_some, mo' _ (by omega), cI_some, S_X11_halves_24 L, S_X11_halves_24 L, nI_1, amn]
      by_cases q : f (i + 1) < f (amn f i)
      · rw [if_pos (nI_lt q (by omega)), if_pos q]
      · rw [if_neg (nI_nlt (by omega) (by omega)), if_neg q]
    · show G_X11_halves_11 _ _ _ _ _ = _
      have b3 := amn_le f (2 ^ n - 1)
      rw [S_X11_halves_11 L (d + 3), m_everyone L (d + 2) m, cI_some, if_neg (nI_ge (by omega) (by omega)), mo' _ (by omega), cI_some]
      split <;> rfl
end API4
