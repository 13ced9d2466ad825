--deps:19.lay 21.facts 22.00.names 22.01.eq 22.02.eq 22.03.eq 22.04.eq 22.05.eq 22.06.eq 22.07.eq 22.08.eq 22.09.eq 22.10.eq 22.11.eq 22.12.eq 22.13.eq 22.14.eq 22.15.eq 22.16.eq 22.17.eq 22.18.eq 22.19.eq 22.20.eq 22.21.eq 22.22.eq 22.23.eq 23.num 24.town 25.evc 26.evm 27.law 28.says 29.inv 30.api1 31.copy 32.api2 33.api3 34.api4 35.api5 36.deeds 37.hours 38.mdeeds 39.mhours 40.hist 41.full 42.acts 43.acts2 44.played 45.undo 46.trial 47.sets 48.sets2 49.image
/-! WHOSE, SLIPS, SWAP -/
set_option linter.unusedSectionVars false
theorem txtR_rl {h : MH} {r t : Nat} (ht : t < 4) (w : txtR h r t) : ∃ dt ds, rlC h r dt ds ∧ rlM h (nI t) dt ds := by
  obtain ⟨dt, ds, cnt, K, F, S, q1, q2, -⟩ := w
  exact ⟨dt, ds, Or.inr q1, Or.inr ⟨t, ht, rfl, cnt, q2⟩⟩
def allB (f : Nat → Bool) : Nat → Nat → Bool
  | 0, _ => true
  | m + 1, i => f i && allB f m (i + 1)
theorem A_whose {c : Nat} {h : MH} (I : INV c h) (d : Nat) : AGI c (F_X10_whose (d + 9)) (F_X11_whose (d + 9)) h := by
  have L := I.1
  obtain ⟨_, ⟨n, W, P, SN, H, X, wr, tn, N, K⟩, M, R⟩ := id I
  obtain ⟨-, -, -, -, -, ⟨t1, t2, t3, -⟩, ⟨sc, s1, s2, s3, s4⟩, -⟩ := N.1
  have u3 : H ≤ 9999 := N.1.2.1.1.2.2
  have t2' : gI h 9 4 = nI tn := t2
  have s2' : gI h 9 8 = nI sc := s2
  have g : ∀ {k : MH}, sm SCR h k → ∀ a, ¬ a ∈ SCR → a < 84 → gI k a = gI h a := fun s a h1 h2 => sm_gI s h1 h2
  have sd : ∀ k, k < sc → ix (gI h 24 k) < n ∧ gI h 24 k = nI (ix (gI h 24 k)) ∧ gI h 68 (42 + 2 * k) = nI (ix (gI h 24 k)) ∧ ix (gI h 25 k) ≤ 3 ∧ gI h 25 k = nI (ix (gI h 25 k)) ∧ gI h 68 (43 + 2 * k) = nI (ix (gI h 25 k)) := by
    intro k hk
    obtain ⟨p, z, z1, z2, z3, z4, z5, z6⟩ := s4 k hk
    have hn := N.1.1.1
    have z3' : gI h 24 k = nI p := z3
    have z5' : gI h 25 k = nI z := z5
    rw [z3', z5', ix_nI (by omega), ix_nI (by omega)]
    exact ⟨z1, rfl, z4, z2, rfl, z6⟩
  have key : ∀ t, ∃ b : Bool, t < tn → (∀ k, lay k → sm SCR h k → ∃ k', F_X0_agrees (d + 8) (gR h 23 t) k = some (.int (bz b), k') ∧ sm SCR h k' ∧ lay k') ∧ (∀ k l1, lay k → sm SCR h k → ∃ k' l3 l4, G_X11_whose_14 (d + 8) l1 (nI t) 1 42 k = G_X11_whose_54 (d + 8) l1 (nI t) l3 l4 (if b then nI (2 ^ t) else 0) l1 k' ∧ sm SCR h k' ∧ lay k') := by
    intro t
    by_cases ht' : ¬ t < tn
    · exact ⟨true, fun q => absurd q ht'⟩
    have ht : t < tn := Classical.not_not.mp ht'
    obtain ⟨dt, ds, rc, rm⟩ := txtR_rl (by omega) (N.2 t ht)
    let f : Nat → Bool := fun k => decide (sldN ds (nmZ n W P SN H (some (ix (gI h 24 k)))) (ldZ n W P SN) = ix (gI h 25 k))
    refine ⟨allB f sc 0, fun _ => ⟨?_, ?_⟩⟩
    · have lp : ∀ m i k, i + m = sc → lay k → sm SCR h k → ∃ k', G_X0_agrees_2 (d + 7) (gR h 23 t) (nI i) k = some (.int (bz (allB f m i)), k') ∧ sm SCR h k' ∧ lay k' := by
        intro m
        induction m with
        | zero =>
          intro i k hi Lk sk
          rw [S_X0_agrees_2 Lk (d + 7), g sk 9 (by decide) (by decide), s2', if_neg (nI_nlt (by omega) (by omega))]
          exact ⟨k, rfl, sk, Lk⟩
        | succ m ih =>
          intro i k hi Lk sk
          obtain ⟨d1, d2, d3, d4, d5, d6⟩ := sd i (by omega)
          have Nk := NOW_sm sk N
          obtain ⟨k1, e1, v1⟩ := c_slidesBy Lk (d + 4) tAt10 (NOW_t Nk) (NOW_H Nk).1 u3 (rlC_sm sk rc) d1
          have L1 : lay k1 := lay_F e1 Lk rfl
          have sk1 : sm SCR h k1 := sm_trans sk (sm_mono v1 (by decide))
          have hs := sldN_le ds (nmZ n W P SN H (some (ix (gI h 24 i)))) (ldZ n W P SN)
          rw [S_X0_agrees_2 Lk (d + 7), g sk 9 (by decide) (by decide), s2', if_pos (nI_lt (by omega) (by omega)), ck_pos (ib_nI (by omega) (by omega)), ix_nI (by omega), g sk 24 (by decide) (by decide), d2, e1, cI_some, ck_pos (ib_nI (by omega) (by omega)), g sk1 25 (by decide) (by decide), d5]
          rw [show allB f (m + 1) i = (f i && allB f m (i + 1)) from rfl]
          by_cases q : sldN ds (nmZ n W P SN H (some (ix (gI h 24 i)))) (ldZ n W P SN) = ix (gI h 25 i)
          · rw [if_pos (congrArg nI q), nI_1, show f i = true from decide_eq_true q, Bool.true_and]
            exact ih (i + 1) k1 (by omega) L1 sk1
          · rw [if_neg (fun w => q ((nI_eq (by omega) (by omega)).mp w)), show f i = false from decide_eq_false q, Bool.false_and]
            exact ⟨k1, rfl, sk1, L1⟩
      intro k Lk sk
      rw [S_X0_agrees Lk (d + 7)]
      exact lp sc 0 k (by omega) Lk sk
    · have lp : ∀ m i k (b : Bool) l1, i + m = sc → lay k → sm SCR h k → ∃ k' l3 l4, G_X11_whose_14 (d + 8) l1 (nI t) (bz b) (nI (42 + 2 * i)) k = G_X11_whose_54 (d + 8) l1 (nI t) l3 l4 (if (b && allB f m i) then nI (2 ^ t) else 0) l1 k' ∧ sm SCR h k' ∧ lay k' := by
        intro m
        induction m with
        | zero =>
          intro i k b l1 hi Lk sk
          rw [S_X11_whose_14 Lk (d + 8), g sk 68 (by decide) (by decide), s3, nIm, nIa, if_neg (nI_nlt (by omega) (by omega))]
          cases b with
          | true =>
            rw [if_neg bz1, one_shl (by omega)]
            exact ⟨k, _, _, rfl, sk, Lk⟩
          | false =>
            rw [if_pos (show bz false = 0 from rfl)]
            exact ⟨k, _, _, rfl, sk, Lk⟩
        | succ m ih =>
          intro i k b l1 hi Lk sk
          rw [S_X11_whose_14 Lk (d + 8), g sk 68 (by decide) (by decide), s3, nIm, nIa, if_pos (nI_lt (by omega) (by omega))]
          cases b with
          | false =>
            rw [if_pos (show bz false = 0 from rfl), S_X11_whose_42 Lk (d + 8), S_X11_whose_43 Lk (d + 8), nIb, show 42 + 2 * i + 2 = 42 + 2 * (i + 1) by omega]
            exact ih (i + 1) k false l1 (by omega) Lk sk
          | true =>
            obtain ⟨d1, d2, d3, d4, d5, d6⟩ := sd i (by omega)
            have Nk := NOW_sm sk N
            obtain ⟨k1, e1, v1⟩ := m_slidesOf Lk d (NOW_m Nk) (NOW_H Nk).2.1 u3 (rlM_sm' sk (by decide) rm) d1
            have L1 : lay k1 := lay_F e1 Lk rfl
            have sk1 : sm SCR h k1 := sm_trans sk (sm_mono v1 (by decide))
            have hs := sldN_le ds (nmZ n W P SN H (some (ix (gI h 24 i)))) (ldZ n W P SN)
            rw [if_neg bz1, ck_pos (ib_nI (by omega) (by omega)), ix_nI (by omega), d3, e1, cI_some, nI_1, ck_pos (ib_nI (by omega) (by omega)), ix_nI (by omega), g sk1 68 (by decide) (by decide), show 42 + 2 * i + 1 = 43 + 2 * i by omega, d6]
            rw [show allB f (m + 1) i = (f i && allB f m (i + 1)) from rfl]
            by_cases q : sldN ds (nmZ n W P SN H (some (ix (gI h 24 i)))) (ldZ n W P SN) = ix (gI h 25 i)
            · rw [if_pos (congrArg nI q), S_X11_whose_43 L1 (d + 8), nIb, show 42 + 2 * i + 2 = 42 + 2 * (i + 1) by omega, show f i = true from decide_eq_true q, Bool.true_and]
              exact ih (i + 1) k1 true l1 (by omega) L1 sk1
            · rw [if_neg (fun w => q ((nI_eq (by omega) (by omega)).mp w)), S_X11_whose_42 L1 (d + 8), S_X11_whose_43 L1 (d + 8), nIb, show 42 + 2 * i + 2 = 42 + 2 * (i + 1) by omega, show f i = false from decide_eq_false q, Bool.false_and, Bool.and_false]
              have := ih (i + 1) k1 false l1 (by omega) L1 sk1
              rw [Bool.false_and] at this
              exact this
      intro k l1 Lk sk
      have := lp sc 0 k true l1 (by omega) Lk sk
      rw [Bool.true_and] at this
      exact this
  let ag : Nat → Bool := fun t => Classical.choose (key t)
  have hag : ∀ t, t < tn → _ := fun t ht => Classical.choose_spec (key t) ht
  have bd : ∀ i, i ≤ 4 → setN ag i < 16 := fun i hi => by
    have h1 := setN_lt ag i
    have h2 := pow4 hi
    omega
  have cl : ∃ k, F_X10_whose (d + 9) h = some (.int (nI (setN ag tn)), k) ∧ sm SCR h k ∧ lay k := by
    rw [S_X10_whose L (d + 8)]
    obtain ⟨k, ⟨sk, Lk⟩, e⟩ := loop_rel (n := tn) (σ := MH) (I := fun _ k => sm SCR h k ∧ lay k) (G := fun i k => G_X10_whose_4 (d + 8) (nI (setN ag i)) (nI i) k) (s := h) (fun i k hi ⟨sk, Lk⟩ => by
      obtain ⟨k1, e1, s1', L1⟩ := (hag i hi).1 k Lk sk
      refine ⟨k1, ⟨s1', L1⟩, ?_⟩
      have b1 := bd i (by omega)
      have b2 := pow4 (n := i) (by omega)
      show G_X10_whose_4 _ _ _ _ = G_X10_whose_4 _ _ _ _
      rw [S_X10_whose_4 Lk (d + 8), g sk 9 (by decide) (by decide), t2', if_pos (nI_lt hi (by omega)), ck_pos (ib_nI (by omega) (by omega)), ix_nI (by omega), sm_gR sk (a := 23) (Or.inl (by decide)), e1, cI_some, lt_def, S_X10_whose_24 L1 (d + 8), S_X10_whose_24 L1 (d + 8), one_shl (by omega), or_nI (by omega) (by omega), nI_1, ← setN_or]
      cases hb : ag i with
      | true =>
        have hb' : Classical.choose (key i) = true := hb
        rw [hb', if_neg bz1, if_pos rfl]
      | false =>
        have hb' : Classical.choose (key i) = false := hb
        rw [hb', if_pos (show bz false = 0 from rfl), if_neg (by decide), Nat.or_zero]) ⟨sm_refl _ h, L⟩
    refine ⟨k, ?_, sk, Lk⟩
    refine (show G_X10_whose_4 (d + 8) 0 0 h = _ from e).trans ?_
    rw [S_X10_whose_4 Lk (d + 8), g sk 9 (by decide) (by decide), t2', if_neg (nI_nlt (Nat.le_refl _) (by omega))]
  obtain ⟨h1, e1, s1', L1⟩ := cl
  have md : ∃ k, F_X11_whose (d + 9) h1 = some (.int (nI (setN ag tn)), k) ∧ sm SCR h k ∧ lay k := by
    rw [S_X11_whose L1 (d + 8)]
    obtain ⟨st, ⟨sk, Lk⟩, e⟩ := loop_rel (n := tn) (σ := Option Value × Option Value × MH) (I := fun _ st => sm SCR h st.2.2 ∧ lay st.2.2) (G := fun i st => G_X11_whose_4 (d + 8) (nI (setN ag i)) (nI i) st.1 st.2.1 st.2.2) (s := (none, none, h1)) (fun i st hi ⟨sk, Lk⟩ => by
      obtain ⟨k1, l3, l4, e1, s1', L1⟩ := (hag i hi).2 st.2.2 (nI (setN ag i)) Lk sk
      refine ⟨(some (.int l3), some (.int l4), k1), ⟨s1', L1⟩, ?_⟩
      have b1 := bd i (by omega)
      have b2 := pow4 (n := i) (by omega)
      show G_X11_whose_4 _ _ _ _ _ _ = G_X11_whose_4 _ _ _ _ _ _
      rw [S_X11_whose_4 Lk (d + 8), g sk 68 (by decide) (by decide), t3, if_pos (nI_lt hi (by omega)), e1, S_X11_whose_54 L1 (d + 8), nI_1, ← setN_or]
      cases hb : ag i with
      | true =>
        have hb' : Classical.choose (key i) = true := hb
        rw [hb', if_pos rfl, if_pos rfl, or_nI (by omega) (by omega)]
      | false =>
        have hb' : Classical.choose (key i) = false := hb
        rw [hb', if_neg (by decide), if_neg (by decide), Nat.or_zero]
        congr 1
        exact Int32.or_zero) ⟨s1', L1⟩
    refine ⟨st.2.2, ?_, sk, Lk⟩
    refine (show G_X11_whose_4 (d + 8) 0 0 none none h1 = _ from e).trans ?_
    rw [S_X11_whose_4 Lk (d + 8), g sk 68 (by decide) (by decide), t3, if_neg (nI_nlt (Nat.le_refl _) (by omega))]
  obtain ⟨h2, e2, s2'', L2⟩ := md
  exact ⟨_, h1, h2, e1, e2, INV_sm s2'' L2 I⟩
/-! divisors -/
theorem m_div5 {h : MH} (L : lay h) (d : Nat) (l0 l1 : Int32) : ∀ (q p : Nat) (o : Option Value), p < 2 ^ 31 → q < 2 ^ 31 → G_X11_divisor_5 d l0 l1 (nI p) (nI q) o h = some (.int (nI (Nat.gcd p q)), h) := by
  intro q
  induction q using Nat.strongRecOn with
  | ind q ih =>
    intro p o hp hq
    rw [S_X11_divisor_5 L d]
    by_cases q0 : q = 0
    · subst q0
      rw [if_pos (show nI 0 = 0 from rfl), Nat.gcd_zero_right]
    · have hm : p % q < q := Nat.mod_lt _ (by omega)
      rw [if_neg (nI_ne0 (by omega) hq), ck_pos (nI_ne0 (by omega) hq), lt_def, pk_rem hp (by omega) hq, ih (p % q) hm q _ hq (by omega)]
      rw [Nat.gcd_comm p q, Nat.gcd_rec q p, Nat.gcd_comm]
theorem c_div8 {h : MH} (L : lay h) (d : Nat) (l0 l1 : Int32) : ∀ (j i p q : Nat) (o : Option Value), q < 2 ^ j → i + 2 * j ≤ 64 → p < 2 ^ 31 → q < 2 ^ 31 → G_X10_divisor_8 d l0 l1 (nI p) (nI q) (nI i) o h = some (.int (jmax (nI (Nat.gcd p q)) 1), h) := by
  have ex : ∀ (i p : Nat) (o : Option Value), i ≤ 64 → p < 2 ^ 31 → G_X10_divisor_8 d l0 l1 (nI p) (nI 0) (nI i) o h = some (.int (jmax (nI (Nat.gcd p 0)) 1), h) := by
    intro i p o hi hp
    rw [S_X10_divisor_8 L d, if_pos (show nI 0 = 0 from rfl), S_X10_divisor_23 L d, Nat.gcd_zero_right]
    split <;> rfl
  have st : ∀ (i p q : Nat) (o : Option Value), i < 64 → 0 < q → p < 2 ^ 31 → q < 2 ^ 31 → G_X10_divisor_8 d l0 l1 (nI p) (nI q) (nI i) o h = G_X10_divisor_8 d l0 l1 (nI q) (nI (p % q)) (nI (i + 1)) (some (.int (nI (p % q)))) h := by
    intro i p q o hi h0 hp hq
    rw [S_X10_divisor_8 L d, if_pos ((nIl (by omega) (by omega)).mpr hi), if_neg (nI_ne0 h0 hq), ck_pos (nI_ne0 h0 hq), lt_def, pk_rem hp h0 hq, nI_1]
  have gc : ∀ p q : Nat, Nat.gcd q (p % q) = Nat.gcd p q := fun p q => by rw [Nat.gcd_comm p q, Nat.gcd_rec q p, Nat.gcd_comm]
  intro j
  induction j with
  | zero =>
    intro i p q o hq hi hp hq2
    obtain rfl : q = 0 := by omega
    exact ex i p o (by omega) hp
  | succ j ih =>
    intro i p q o hq hi hp hq2
    by_cases q0 : q = 0
    · subst q0
      exact ex i p o (by omega) hp
    · have hm : p % q < q := Nat.mod_lt _ (by omega)
      rw [st i p q o (by omega) (by omega) hp hq2, ← gc p q]
      by_cases r0 : p % q = 0
      · rw [r0]
        exact ex (i + 1) q _ (by omega) hq2
      · have hm2 : q % (p % q) < p % q := Nat.mod_lt _ (by omega)
        have hh : q % (p % q) < 2 ^ j := by
          have e2 : 2 ^ (j + 1) = 2 * 2 ^ j := by rw [Nat.pow_succ, Nat.mul_comm]
          by_cases c : 2 * (p % q) ≤ q
          · omega
          · have : q % (p % q) = q - p % q := by
              rw [Nat.mod_eq_sub_mod (by omega), Nat.mod_eq_of_lt (by omega)]
            omega
        rw [st (i + 1) q (p % q) _ (by omega) (by omega) hq2 (by omega), ← gc q (p % q)]
        exact ih (i + 1 + 1) (p % q) (q % (p % q)) _ hh (by omega) (by omega) (by omega)
theorem c_div {h : MH} (L : lay h) (d : Nat) {z : Int} (hz : -1000000 < z ∧ z < 1000000) {b : Nat} (hb : 0 < b) (hb2 : b < 1024) : F_X10_divisor (d + 1) (zI z) (nI b) h = some (.int (nI (Nat.gcd z.natAbs b)), h) := by
  have e : jabs (nI b) = nI b := by unfold jabs; rw [if_neg (nIz (by omega))]
  have h1 : 0 < Nat.gcd z.natAbs b := Nat.gcd_pos_of_pos_right _ hb
  have h2 : Nat.gcd z.natAbs b ≤ b := Nat.gcd_le_right _ hb
  rw [S_X10_divisor L d, zI_abs (by omega), e, ← nI_zI]
  refine (c_div8 L d _ _ 10 0 z.natAbs b none (by omega) (by omega) (by omega) (by omega)).trans ?_
  unfold jmax
  rw [if_neg (fun q => by have := (nIl (by omega) (by omega)).mp q; omega)]
theorem m_div {h : MH} (L : lay h) (d : Nat) {z : Int} (hz : -1000000 < z ∧ z < 1000000) {b : Nat} (hb2 : b < 1024) : F_X11_divisor (d + 2) (zI z) (nI b) h = some (.int (nI (Nat.gcd z.natAbs b)), h) := by
  rw [S_X11_divisor L (d + 1), m_size L d (by omega), cI_some, ← nI_zI, m_div5 L (d + 1) _ _ b z.natAbs none (by omega) (by omega)]
/-! slips -/
def armZ (s k : Nat) : Int := sumZ (fun c => if s.testBit c then (c : Int) - 4 else 0) k
theorem arm_b (s k : Nat) : -4 * (k : Int) ≤ armZ s k ∧ armZ s k ≤ (k : Int) * k + 4 * k := by
  induction k with
  | zero =>
    show -4 * ((0 : Nat) : Int) ≤ 0 ∧ (0 : Int) ≤ ((0 : Nat) : Int) * ((0 : Nat) : Int) + 4 * ((0 : Nat) : Int)
    decide
  | succ k ih =>
    unfold armZ at *
    rw [sumZ_s]
    have : ((k + 1 : Nat) : Int) * ((k + 1 : Nat) : Int) = (k : Int) * k + 2 * k + 1 := by
      rw [Int.natCast_add, Int.add_mul, Int.mul_add]
      omega
    split <;> omega
theorem c_armsOf {h : MH} (L : lay h) (d : Nat) {s : Nat} (hs : s < 512) : F_X10_armsOf (d + 2) (nI s) h = some (.int (zI (armZ s 9)), h) := by
  rw [S_X10_armsOf L (d + 1)]
  refine (loop_all (n := 9) (F := fun i => G_X10_armsOf_4 (d + 1) (nI s) (zI (armZ s i)) (nI i) h) (fun i hi => ?_)).trans ?_
  · show G_X10_armsOf_4 _ _ _ _ _ = _
    rw [S_X10_armsOf_4 L (d + 1), if_pos ((nIl (by omega) (by omega)).mpr hi), c_holds L d (by omega) (by omega), cI_some, lt_def, S_X10_armsOf_17 L (d + 1), S_X10_armsOf_17 L (d + 1), nI_1]
    unfold armZ
    by_cases hb : s.testBit i
    · rw [if_pos hb, if_neg i10, sumZ_s, if_pos hb]
      simp only [nI_zI, lit_zI, zI_add, zI_mul, zI_sub, zI_neg, if_true, if_false, Bool.false_eq_true]
      rfl
    · rw [if_neg hb, if_pos rfl, sumZ_s, if_neg hb, Int.add_zero]
  · show G_X10_armsOf_4 _ _ _ _ _ = _
    rw [S_X10_armsOf_4 L (d + 1), if_neg (by decide)]
noncomputable def slpN (tip : Int) (w bound : Nat) (k : Nat) : Nat := sumN (fun s => if (tip + (w : Int) * armZ s 9).natAbs ≤ bound then 0 else 1) k
theorem A_slips {c : Nat} {h : MH} (I : INV c h) (d : Nat) (a b : Int32) : AGI c (F_X10_slips (d + 9) a b) (F_X11_slips (d + 9) a b) h := by
  have L := I.1
  obtain ⟨_, ⟨n, W, P, SN, H, X, wr, tn, N, K⟩, M, R⟩ := id I
  by_cases ha : ¬ (1 ≤ a ∧ a ≤ 9)
  · refine ⟨-1, h, h, ?_, ?_, I⟩
    · rw [S_X10_slips L (d + 8), c_within L, cI_some, bI_neg ha, if_pos rfl]
    · rw [S_X11_slips L (d + 8), m_isIn L, cI_some, bI_neg ha, if_pos rfl]
  replace ha := Classical.not_not.mp ha
  obtain ⟨w, hw1, hw, rfl⟩ := arg_1 (N := 9) (by omega) ha
  obtain ⟨dt, ds, rc, rm⟩ := NOW_rl N
  have u3 : H ≤ 9999 := N.1.2.1.1.2.2
  have tb0' := twn_b (NOW_t N)
  obtain ⟨h1, e1, v1⟩ := c_tipsNow L (d + 5) tAt10 (NOW_t N) (NOW_H N).1 u3 rc
  have L1 : lay h1 := lay_F e1 L rfl
  have s1 : sm SCR h h1 := sm_mono v1 (by decide)
  have N1 := NOW_sm s1 N
  obtain ⟨h2, e2, v2⟩ := m_tipsNow L1 d (NOW_m N1) (NOW_H N1).2.1 u3 (rlM_sm s1 rm)
  have L2 : lay h2 := lay_F e2 L1 rfl
  have s2 : sm SCR h h2 := sm_trans s1 (sm_mono v2 (by decide))
  have N2 := NOW_sm s2 N
  have tl := tpsN_le dt (nmZ n W P SN H none) (ldZ n W P SN)
  generalize tpsN dt (nmZ n W P SN H none) (ldZ n W P SN) = bound at e1 e2 tl
  have mt := m_tipNow L2 (d + 5) (NOW_m N2)
  have ct := c_tipNow L (d + 7) tAt10 (NOW_t N)
  generalize tipZ n W P SN = tip at mt ct tb0'
  have ab : ∀ s, -36 ≤ armZ s 9 ∧ armZ s 9 ≤ 117 := fun s => by have := arm_b s 9; omega
  have wb : ∀ s, -2000 ≤ tip + (w : Int) * armZ s 9 ∧ tip + (w : Int) * armZ s 9 ≤ 2000 := fun s => by
    have h1 := ab s
    have : -324 ≤ (w : Int) * armZ s 9 ∧ (w : Int) * armZ s 9 ≤ 1053 := by
      match w, hw with
      | 0, _ | 1, _ | 2, _ | 3, _ | 4, _ | 5, _ | 6, _ | 7, _ | 8, _ | 9, _ => omega
    omega
  have nb : ∀ k, slpN tip w bound k ≤ 1 * k := fun k => sumN_le (fun i _ => by split <;> omega)
  have nb5 := nb 512
  have g1 : 0 < Nat.gcd (slpN tip w bound 512) 512 := Nat.gcd_pos_of_pos_right _ (by omega)
  have g2 : Nat.gcd (slpN tip w bound 512) 512 ≤ 512 := Nat.gcd_le_right _ (by omega)
  have dvC : ∀ k, lay k → F_X10_divisor (d + 8) (nI (slpN tip w bound 512)) 512 k = some (.int (nI (Nat.gcd (slpN tip w bound 512) 512)), k) := by
    intro k Lk
    have := c_div Lk (d + 7) (z := ((slpN tip w bound 512 : Nat) : Int)) (by omega) (b := 512) (by omega) (by omega)
    rw [← nI_zI, Int.natAbs_natCast] at this
    exact this
  have dvM : ∀ k, lay k → F_X11_divisor (d + 8) (nI (slpN tip w bound 512)) 512 k = some (.int (nI (Nat.gcd (slpN tip w bound 512) 512)), k) := by
    intro k Lk
    have := m_div Lk (d + 6) (z := ((slpN tip w bound 512 : Nat) : Int)) (by omega) (b := 512) (by omega)
    rw [← nI_zI, Int.natAbs_natCast] at this
    exact this
  refine ⟨(if b = 0 then nI (slpN tip w bound 512) else 512) / nI (Nat.gcd (slpN tip w bound 512) 512), h1, h2, ?_, ?_, INV_sm s2 L2 I⟩
  · rw [S_X10_slips L (d + 8), c_within L, cI_some, bI_pos ha, if_neg i10, ct, cI_some, e1, cI_some]
    refine (loop_all (n := 512) (F := fun i => G_X10_slips_21 (d + 8) (nI w) b (zI tip) (nI bound) (nI (slpN tip w bound i)) (nI i) h1) (fun i hi => ?_)).trans ?_
    · show G_X10_slips_21 _ _ _ _ _ _ _ _ = _
      have w1 := wb i
      rw [S_X10_slips_21 L1 (d + 8), if_pos ((nIl (by omega) (by omega)).mpr hi), c_armsOf L1 (d + 6) hi, cI_some, S_X10_slips_34 L1 (d + 8), S_X10_slips_34 L1 (d + 8), nI_1, nI_1, nI_zI w, zI_mul, zI_add, zI_abs (by omega), ← nI_zI, ← nI_zI]
      unfold slpN
      rw [sumN_s]
      by_cases q : (tip + (w : Int) * armZ i 9).natAbs ≤ bound
      · rw [if_pos (nI_le q (by omega)), if_pos q]
        rfl
      · rw [if_neg (nI_ge (by omega) (by omega)), if_neg q]
    · show G_X10_slips_21 _ _ _ _ _ _ _ _ = _
      rw [S_X10_slips_21 L1 (d + 8), if_neg (by decide), dvC h1 L1, cI_some, S_X10_slips_45 L1 (d + 8), S_X10_slips_45 L1 (d + 8), ck_pos (nI_ne0 g1 (by omega)), ck_pos (nI_ne0 g1 (by omega))]
      split <;> rfl
  · rw [S_X11_slips L1 (d + 8), m_isIn L1, cI_some, bI_pos ha, if_neg i10, e2, cI_some]
    obtain ⟨st, -, e⟩ := loop_rel (n := 512) (σ := Option Value × Option Value) (I := fun _ _ => True) (G := fun i st => G_X11_slips_14 (d + 8) (nI w) b (nI bound) (nI (slpN tip w bound i)) (nI i) st.1 st.2 h2) (s := (none, none)) (fun i st hi _ => by
      refine ⟨(some (.int (zI (tip + (w : Int) * armZ i 9))), some (.int (nI 9))), trivial, ?_⟩
      show G_X11_slips_14 _ _ _ _ _ _ _ _ _ = G_X11_slips_14 _ _ _ _ _ _ _ _ _
      have w1 := wb i
      rw [S_X11_slips_14 L2 (d + 8), if_pos ((nIl (by omega) (by omega)).mpr hi), mt, cI_some]
      have inner := loop_all (n := 9) (F := fun j => G_X11_slips_22 (d + 8) (nI w) b (nI bound) (nI (slpN tip w bound i)) (nI i) (zI (tip + (w : Int) * armZ i j)) (nI j) h2) (fun j hj => by
        show G_X11_slips_22 _ _ _ _ _ _ _ _ _ = _
        rw [S_X11_slips_22 L2 (d + 8), if_pos ((nIl (by omega) (by omega)).mpr hj), m_has' L2 (d + 7) (by omega) (by omega), cI_some, S_X11_slips_37 L2 (d + 8), S_X11_slips_37 L2 (d + 8), nI_1]
        unfold armZ
        by_cases hb : i.testBit j
        · rw [if_pos hb, if_neg i10, sumZ_s, if_pos hb, nI_zI w, nI_zI j, show (4 : Int32) = zI 4 by decide +kernel, zI_sub, zI_mul, zI_add, Int.mul_add, Int.add_assoc]
        · rw [if_neg hb, if_pos rfl, sumZ_s, if_neg hb, Int.add_zero, Int32.add_zero])
      have z0 : zI (tip + (w : Int) * armZ i 0) = zI tip := by
        show zI (tip + (w : Int) * 0) = zI tip
        rw [Int.mul_zero, Int.add_zero]
      rw [z0] at inner
      refine (show G_X11_slips_22 (d + 8) (nI w) b (nI bound) (nI (slpN tip w bound i)) (nI i) (zI tip) 0 h2 = _ from inner).trans ?_
      rw [S_X11_slips_22 L2 (d + 8), if_neg (by decide), m_size L2 (d + 7) (by omega), cI_some, ← nI_zI, S_X11_slips_49 L2 (d + 8), S_X11_slips_49 L2 (d + 8), nI_1, nI_1]
      unfold slpN
      rw [sumN_s]
      by_cases q : (tip + (w : Int) * armZ i 9).natAbs ≤ bound
      · rw [if_pos (nI_le q (by omega)), if_pos q, Int32.add_zero]
        rfl
      · rw [if_neg (nI_ge (by omega) (by omega)), if_neg q]) trivial
    refine (show G_X11_slips_14 (d + 8) (nI w) b (nI bound) 0 0 none none h2 = _ from e).trans ?_
    rw [S_X11_slips_14 L2 (d + 8), if_neg (by decide), S_X11_slips_58 L2 (d + 8), S_X11_slips_58 L2 (d + 8), dvM h2 L2, cI_some, cI_some, ck_pos (nI_ne0 g1 (by omega)), ck_pos (nI_ne0 g1 (by omega))]
    split <;> rfl
