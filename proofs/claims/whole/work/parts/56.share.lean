--deps:19.lay 21.facts 22.00.names 22.01.eq 22.02.eq 22.03.eq 22.04.eq 22.05.eq 22.06.eq 22.07.eq 22.08.eq 22.09.eq 22.10.eq 22.11.eq 22.12.eq 22.13.eq 22.14.eq 22.15.eq 22.16.eq 22.17.eq 22.18.eq 22.19.eq 22.20.eq 22.21.eq 22.22.eq 22.23.eq 23.num 24.town 25.evc 26.evm 27.law 28.says 29.inv 30.api1 31.copy 32.api2 33.api3 34.api4 35.api5 36.deeds 37.hours 38.mdeeds 39.mhours 40.hist 41.full 42.acts 43.acts2 44.played 45.undo 46.trial 47.sets 48.sets2 49.image 50.ask 51.swap 52.level 53.crowd 54.crowd2 55.crowd3
/-! SHARES OF THE TIP -/
set_option linter.unusedSectionVars false
theorem pop_less : ∀ n, n ≤ 4 → ∀ S, S < 2 ^ n → ∀ p, p < n → S.testBit p = false → popN S + 1 ≤ n := by decide
theorem fac_b : ∀ n, n ≤ 4 → ∀ b, b < n → fac b * fac (n - 1 - b) ≤ 6 := by decide
theorem fac_24 : ∀ n, n ≤ 4 → 0 < fac n ∧ fac n ≤ 24 := by decide
theorem m_fact {h : MH} (L : lay h) (d : Nat) {x : Nat} (hx : x ≤ 4) : F_X11_factorial (d + 1) (nI x) h = some (.int (nI (fac x)), h) := by
  rw [S_X11_factorial L d]
  refine (loop_all (n := x - 1) (F := fun i => G_X11_factorial_4 d (nI x) (nI (fac (i + 1))) (nI (i + 2)) h) (fun i hi => ?_)).trans ?_
  · show G_X11_factorial_4 _ _ _ _ _ = _
    rw [S_X11_factorial_4 L d, if_pos (nI_le (by omega) (by omega)), pk_mul, nI_1]
    rfl
  · show G_X11_factorial_4 _ _ _ _ _ = _
    rw [S_X11_factorial_4 L d, if_neg (nI_ge (by omega) (by omega))]
    congr 4
    match x, hx with
    | 0, _ => rfl
    | x + 1, _ => rfl
def shT (tz : Nat → Int) (n p S : Nat) : Int := if S.testBit p then 0 else ((fac (popN S) * fac (n - 1 - popN S) : Nat) : Int) * (((tz (S ||| 2 ^ p)).natAbs : Int) - (tz S).natAbs)
def shZ (tz : Nat → Int) (n p k : Nat) : Int := sumZ (shT tz n p) k
theorem A_share {c : Nat} {h : MH} (I : INV c h) (d : Nat) (a b : Int32) : AGI c (F_X10_share (d + 10) a b) (F_X11_share (d + 10) a b) h := by
  have L := I.1
  obtain ⟨_, ⟨n, W, P, SN, H, X, wr, tn, N, K⟩, M, R⟩ := id I
  obtain ⟨dt, ds, rc, rm⟩ := NOW_rl N
  obtain ⟨w, ew⟩ := wy_ex (tipS n W P SN) (tpsN dt (nmZ n W P SN H none) (ldZ n W P SN))
  obtain ⟨v, ev⟩ := wn_ex (tipS n W P SN) (tpsN dt (nmZ n W P SN H none) (ldZ n W P SN))
  have hn := (NOW_t N).1
  have h16 := pow4 hn
  have hp2 := Nat.two_pow_pos n
  rcases ib_cases (a := a) (N := n) (by omega) with ⟨e, -⟩ | ⟨p, hp, rfl, e⟩
  · refine ⟨-1000, h, h, ?_, ?_, I⟩
    · rw [S_X10_share L (d + 9), c_has L (d + 7) tAt10 (NOW_t N), cI_some, e, if_pos rfl]
    · rw [S_X11_share L (d + 9), m_isPerson L (d + 7) (NOW_m N), cI_some, e, if_pos rfl]
  obtain ⟨h1, e1, s1, L1, g1, j1⟩ := c_weigh I (d + 4) N rc ew ev
  have I1 := INV_sm s1 L1 I
  have N1 := NOW_sm s1 N
  have m1 := NOW_m N1
  have tz : ∀ S, -1000 < tipS n W P SN S ∧ tipS n W P SN S < 1000 := fun S => tipS_b (twn_tbd (NOW_t N)) S
  have f24 := fac_24 n hn
  have tb : ∀ S, S < 2 ^ n → -6000 ≤ shT (tipS n W P SN) n p S ∧ shT (tipS n W P SN) n p S ≤ 6000 := by
    intro S hS
    unfold shT
    by_cases q : S.testBit p = true
    · rw [if_pos q]; omega
    · rw [if_neg q]
      have pl := pop_less n hn S hS p hp (Bool.eq_false_iff.mpr q)
      have fb := fac_b n hn (popN S) (by omega)
      have t1 := tz S
      have t2 := tz (S ||| 2 ^ p)
      generalize fac (popN S) * fac (n - 1 - popN S) = F at fb
      generalize hD : ((tipS n W P SN (S ||| 2 ^ p)).natAbs : Int) - (tipS n W P SN S).natAbs = D
      have hD' : -1000 ≤ D ∧ D ≤ 1000 := by omega
      match F, fb with
      | 0, _ | 1, _ | 2, _ | 3, _ | 4, _ | 5, _ | 6, _ => omega
  have sb : ∀ k, k ≤ 2 ^ n → -100000 < shZ (tipS n W P SN) n p k ∧ shZ (tipS n W P SN) n p k < 100000 := by
    intro k hk
    have := sumZ_bd (f := shT (tipS n W P SN) n p) (n := k) (lo := -6000) (hi := 6000) (fun i hi => tb i (by omega))
    unfold shZ
    omega
  have sE := sb (2 ^ n) (Nat.le_refl _)
  -- the class's sum
  have cs : F_X1_shareOf (d + 9) (nI p) (nI n) h1 = some (.int (zI (shZ (tipS n W P SN) n p (2 ^ n))), h1) := by
    rw [S_X1_shareOf L1 (d + 8)]
    obtain ⟨st, -, ek⟩ := loop_rel (n := 2 ^ n) (σ := Option Value × Option Value) (I := fun _ _ => True) (G := fun S st => G_X1_shareOf_4 (d + 8) (nI p) (nI n) (zI (shZ (tipS n W P SN) n p S)) (nI S) st.1 st.2 h1) (s := (none, none)) (fun S st hS _ => by
      have es : shZ (tipS n W P SN) n p (S + 1) = shZ (tipS n W P SN) n p S + shT (tipS n W P SN) n p S := rfl
      by_cases q : S.testBit p = true
      · refine ⟨(st.1, st.2), trivial, ?_⟩
        show G_X1_shareOf_4 _ _ _ _ _ _ _ _ = G_X1_shareOf_4 _ _ _ _ _ _ _ _
        rw [S_X1_shareOf_4 L1 (d + 8), g1.2.1, if_pos (nI_le (by omega) (by omega)), c_holds L1 (d + 7) (by omega) (by omega), cI_some, if_pos q, if_neg i10, S_X1_shareOf_47 L1 (d + 8), nI_1, es]
        unfold shT
        rw [if_pos q, Int.add_zero]
      · have pl := pop_less n hn S hS p hp (Bool.eq_false_iff.mpr q)
        have o1 := bit_orn n hn S hS p hp
        have t1 := tz S
        have t2 := tz (S ||| 2 ^ p)
        refine ⟨(some (.int (nI (popN S))), some (.int (nI (fac (popN S) * fac (n - 1 - popN S))))), trivial, ?_⟩
        show G_X1_shareOf_4 _ _ _ _ _ _ _ _ = G_X1_shareOf_4 _ _ _ _ _ _ _ _
        rw [S_X1_shareOf_4 L1 (d + 8), g1.2.1, if_pos (nI_le (by omega) (by omega)), c_holds L1 (d + 7) (by omega) (by omega), cI_some, if_neg q, if_pos rfl, bc_pop S (by omega), cI_some, ck_pos (ib_nI (by omega) (by omega)), show (1 : Int32) = nI 1 from rfl, pk_sub (by omega), pk_sub (by omega), ck_pos (ib_nI (by omega) (by omega)), ix_nI (by omega), ix_nI (by omega), L1.2.2.2.2.2.1, mfc_f _ (by omega), mfc_f _ (by omega), pk_mul, lt_def, show nI 1 <<< (nI p &&& 31) = nI (2 ^ p) from one_shl (by omega), or_nI (by omega) (by have := pow4 (n := p) (by omega); omega), ck_pos (ib_nI (by omega) (by omega)), ck_pos (ib_nI (by omega) (by omega)), lt_def, ix_nI (by omega), ix_nI (by omega), g1.2.2 _ o1, g1.2.2 _ hS, zI_abs (by omega), zI_abs (by omega), S_X1_shareOf_47 L1 (d + 8), nI_zI (fac (popN S) * fac (n - 1 - popN S)), zI_sub, zI_mul, zI_add, nI_1, es]
        unfold shT
        rw [if_neg q]) trivial
    refine (show G_X1_shareOf_4 (d + 8) (nI p) (nI n) 0 0 none none h1 = _ from ek).trans ?_
    rw [S_X1_shareOf_4 L1 (d + 8), g1.2.1, if_neg (nI_ge (by omega) (by omega))]
  have e10 : gI h1 10 0 = nI n := (NOW_t N1).2.1
  have gg1 : 0 < Nat.gcd (shZ (tipS n W P SN) n p (2 ^ n)).natAbs (fac n) := Nat.gcd_pos_of_pos_right _ f24.1
  have gg2 : Nat.gcd (shZ (tipS n W P SN) n p (2 ^ n)).natAbs (fac n) ≤ fac n := Nat.gcd_le_right _ f24.1
  refine ⟨(if b = 0 then zI (shZ (tipS n W P SN) n p (2 ^ n)) else nI (fac n)) / nI (Nat.gcd (shZ (tipS n W P SN) n p (2 ^ n)).natAbs (fac n)), h1, h1, ?_, ?_, I1⟩
  · rw [S_X10_share L (d + 9), c_has L (d + 7) tAt10 (NOW_t N), cI_some, e, if_neg i10, e1, cV_some, e10, ck_pos (ib_nI (by omega) (by omega)), ix_nI (by omega), L1.2.2.2.2.2.1, mfc_f n (by omega), lt_def, cs, cI_some, c_div L1 (d + 8) (by omega) f24.1 (by omega), cI_some, S_X10_share_39 L1 (d + 9), S_X10_share_39 L1 (d + 9), ck_pos (nI_ne0 gg1 (by omega)), ck_pos (nI_ne0 gg1 (by omega))]
    split <;> rfl
  · have e' : bI (ib (nI p) n) = 1 := e
    rw [S_X11_share L1 (d + 9), m_isPerson L1 (d + 7) m1, cI_some, e', if_neg i10, m1.2.1]
    refine (loop_all (n := 2 ^ n) (F := fun S => G_X11_share_15 (d + 9) (nI p) b (zI (shZ (tipS n W P SN) n p S)) (nI n) (nI S) h1) (fun S hS => ?_)).trans ?_
    · show G_X11_share_15 _ _ _ _ _ _ _ = _
      have es : shZ (tipS n W P SN) n p (S + 1) = shZ (tipS n W P SN) n p S + shT (tipS n W P SN) n p S := rfl
      rw [S_X11_share_15 L1 (d + 9), m_everyone L1 (d + 8) m1, cI_some, if_pos (nI_le (by omega) (by omega)), m_has' L1 (d + 8) (by omega) (by omega), cI_some]
      by_cases q : S.testBit p = true
      · rw [if_pos q, if_neg i10, S_X11_share_51 L1 (d + 9), nI_1, es]
        unfold shT
        rw [if_pos q, Int.add_zero]
      · have pl := pop_less n hn S hS p hp (Bool.eq_false_iff.mpr q)
        have o1 := bit_orn n hn S hS p hp
        have t1 := tz S
        have t2 := tz (S ||| 2 ^ p)
        have p4 := pow4 (n := p) (by omega)
        rw [if_neg q, if_pos rfl, one_shl (by omega), or_nI (by omega) (by omega), m_tipOf L1 (d + 7) m1 (by omega), cI_some, m_size L1 (d + 8) (by omega), cI_some, m_tipOf L1 (d + 7) m1 (by omega), cI_some, m_size L1 (d + 8) (by omega), cI_some, m_bits L1 (d + 8) (by omega), cI_some, m_fact L1 (d + 8) (by omega), cI_some, m_bits L1 (d + 8) (by omega), cI_some, show (1 : Int32) = nI 1 from rfl, pk_sub (by omega), pk_sub (by omega), m_fact L1 (d + 8) (by omega), cI_some, lt_def, S_X11_share_51 L1 (d + 9), zI_sub, nI_zI (fac (popN S)), nI_zI (fac (n - 1 - popN S)), zI_mul, zI_mul, zI_add, nI_1, es]
        unfold shT
        rw [if_neg q]
        congr 2
        rw [Int.natCast_mul, Int.mul_comm (_ * _) (_ - _), Int.mul_assoc]
    · show G_X11_share_15 _ _ _ _ _ _ _ = _
      rw [S_X11_share_15 L1 (d + 9), m_everyone L1 (d + 8) m1, cI_some, if_neg (nI_ge (by omega) (by omega)), m_fact L1 (d + 8) hn, cI_some, S_X11_share_59 L1 (d + 9), S_X11_share_59 L1 (d + 9), m_fact L1 (d + 8) hn, cI_some, cI_some, m_div L1 (d + 7) (by omega) (by omega), cI_some, cI_some, ck_pos (nI_ne0 gg1 (by omega)), ck_pos (nI_ne0 gg1 (by omega))]
      split <;> rfl
