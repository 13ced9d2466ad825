--deps:19.lay 21.facts 22.00.names 22.01.eq 22.02.eq 22.03.eq 22.04.eq 22.05.eq 22.06.eq 22.07.eq 22.08.eq 22.09.eq 22.10.eq 22.11.eq 22.12.eq 22.13.eq 22.14.eq 22.15.eq 22.16.eq 22.17.eq 22.18.eq 22.19.eq 22.20.eq 22.21.eq 22.22.eq 22.23.eq 23.num 24.town 25.evc 26.evm 27.law 28.says 29.inv 30.api1 31.copy 32.api2 33.api3 34.api4 35.api5 36.deeds 37.hours 38.mdeeds 39.mhours 40.hist 41.full 42.acts 43.acts2 44.played 45.undo 46.trial 47.sets 48.sets2 49.image 50.ask 51.swap 52.level 53.crowd
/-! QUARREL, ORDERS, ORDER -/
set_option linter.unusedSectionVars false
/-- the tip without those who aren't in S, k of them looked at -/
def tpP (n : Nat) (W P SN : Nat → Nat) (S k : Nat) : Int := tipZ n W P SN - sumZ (fun p => if S.testBit p then 0 else (W p : Int) * ((P p : Int) - 4)) k
theorem tpP_n (n : Nat) (W P SN : Nat → Nat) (S : Nat) : tpP n W P SN S n = tipS n W P SN S := by
  have : sumZ (fun p => (W p : Int) * ((P p : Int) - 4)) n = sumZ (fun p => if S.testBit p then (W p : Int) * ((P p : Int) - 4) else 0) n + sumZ (fun p => if S.testBit p then 0 else (W p : Int) * ((P p : Int) - 4)) n := by
    rw [← sumZ_add]
    refine sumZ_congr (fun i _ => ?_)
    split <;> omega
  unfold tpP tipZ tipS
  omega
theorem tipS_b {n : Nat} {W P SN : Nat → Nat} (b : tbd n W P SN) (S : Nat) : -1000 < tipS n W P SN S ∧ tipS n W P SN S < 1000 := by
  obtain ⟨hn, hW, hP, hS⟩ := b
  have mb : ∀ w p : Nat, w ≤ 9 → p ≤ 8 → -36 ≤ (w : Int) * ((p : Int) - 4) ∧ (w : Int) * ((p : Int) - 4) ≤ 36 := by
    have : ∀ w : Nat, w < 10 → ∀ p : Nat, p < 9 → -36 ≤ (w : Int) * ((p : Int) - 4) ∧ (w : Int) * ((p : Int) - 4) ≤ 36 := by decide +kernel
    intro w p hw hp
    exact this w (by omega) p (by omega)
  have b1 := sumZ_bd (f := fun p => if S.testBit p then (W p : Int) * ((P p : Int) - 4) else 0) (n := n) (lo := -36) (hi := 36) (fun i hi => by
    have := mb _ _ (hW i hi) (hP i hi)
    split <;> omega)
  have b2 := sumZ_bd (f := fun c => (SN c : Int) * ((c : Int) - 4)) (n := 9) (lo := -36) (hi := 36) (fun i hi => mb _ _ (hS i hi) (by omega))
  unfold tipS
  omega
theorem c_weigh {c : Nat} {h : MH} (I : INV c h) (d : Nat) {n : Nat} {W P SN : Nat → Nat} {H X wr tn : Nat} (N : NOW h n W P SN H X wr tn) {dt ds : Option Den} (rc : rlC h (gR h 10 9) dt ds) {w : Nat → Nat} {v : Nat → Bool} (ew : ∀ S, w S = wyF (tipS n W P SN) (tpsN dt (nmZ n W P SN H none) (ldZ n W P SN)) S w 4) (ev : ∀ S, v S = wnF (tipS n W P SN) (tpsN dt (nmZ n W P SN H none) (ldZ n W P SN)) S v 4) : ∃ h', F_X1_weigh (d + 5) h = some (.int 0, h') ∧ sm SCR h h' ∧ lay h' ∧ WG h' n (tpsN dt (nmZ n W P SN H none) (ldZ n W P SN)) (tipS n W P SN) ∧ WJ h' w v (2 ^ n) := by
  have L := I.1
  have t := NOW_t N
  have hn := t.1
  have u3 : H ≤ 9999 := N.1.2.1.1.2.2
  have h16 := pow4 hn
  have hp2 := Nat.two_pow_pos n
  have tl := tpsN_le dt (nmZ n W P SN H none) (ldZ n W P SN)
  have zb : ∀ S, S < 2 ^ n → -1000 < tipS n W P SN S ∧ tipS n W P SN S < 1000 := fun S _ => tipS_b (twn_tbd t) S
  obtain ⟨h1, e1, v1⟩ := c_tipsNow L (d + 1) tAt10 t (NOW_H N).1 u3 rc
  have L1 : lay h1 := lay_F e1 L rfl
  have s1 : sm SCR h h1 := sm_mono v1 (by decide)
  generalize tpsN dt (nmZ n W P SN H none) (ldZ n W P SN) = bound at e1 tl ew ev
  have e10 : ∀ k, sm SCR h k → gI k 10 0 = nI n := fun k sk => by rw [sm_gI sk (by decide) (by decide)]; exact t.2.1
  have s2 : sm SCR h (sI h1 63 3 (nI bound)) := sm_trans s1 (sm_sI (by decide))
  have L2 : lay (sI h1 63 3 (nI bound)) := layI L1 (by decide)
  have s3 : sm SCR h (sI (sI h1 63 3 (nI bound)) 63 4 (nI (2 ^ n - 1))) := sm_trans s2 (sm_sI (by decide))
  have L3 : lay (sI (sI h1 63 3 (nI bound)) 63 4 (nI (2 ^ n - 1))) := layI L2 (by decide)
  rw [S_X1_weigh L (d + 4), e1, cI_some, lt_def, lt_def, e10 _ s2, one_shl (by omega), show (1 : Int32) = nI 1 from rfl, pk_sub hp2, c_tipNow L3 (d + 3) tAt10 (NOW_t (NOW_sm s3 N)), cI_some]
  have g63 : gI (sI (sI h1 63 3 (nI bound)) 63 4 (nI (2 ^ n - 1))) 63 3 = nI bound ∧ gI (sI (sI h1 63 3 (nI bound)) 63 4 (nI (2 ^ n - 1))) 63 4 = nI (2 ^ n - 1) := by
    rw [gI_sIs, up_s, up_o _ _ (by decide), gI_sIs, up_s]
    exact ⟨rfl, rfl⟩
  generalize sI (sI h1 63 3 (nI bound)) 63 4 (nI (2 ^ n - 1)) = h3 at s3 L3 g63
  -- the tips
  obtain ⟨st, ⟨a1, a2, a3, a4, a5⟩, e⟩ := loop_rel (n := 2 ^ n) (σ := Option Value × MH) (I := fun i st => lay st.2 ∧ sm SCR h st.2 ∧ gI st.2 63 3 = nI bound ∧ gI st.2 63 4 = nI (2 ^ n - 1) ∧ ∀ S, S < i → gI st.2 64 S = zI (tipS n W P SN S)) (G := fun i st => G_X1_weigh_17 (d + 4) (zI (tipZ n W P SN)) (nI i) st.1 st.2) (s := (none, h3)) (fun i st hi ⟨a1, a2, a3, a4, a5⟩ => by
    have L4 : lay (sI st.2 64 i (zI (tipZ n W P SN))) := layI a1 (by decide)
    have inner := loop_rel (n := n) (σ := MH) (I := fun j k => lay k ∧ sm SCR h k ∧ gI k 63 3 = nI bound ∧ gI k 63 4 = nI (2 ^ n - 1) ∧ (∀ S, S < i → gI k 64 S = zI (tipS n W P SN S)) ∧ gI k 64 i = zI (tpP n W P SN i j)) (G := fun j k => G_X1_weigh_28 (d + 4) (zI (tipZ n W P SN)) (nI i) (nI j) k) (s := sI st.2 64 i (zI (tipZ n W P SN))) (fun j k hj ⟨b1, b2, b3, b4, b5, b6⟩ => by
      have tk := NOW_t (NOW_sm b2 N)
      have w1 : gI k 11 j = nI (W j) := (tk.2.2.1 j hj).1
      have w2 : gI k 12 j = nI (P j) := (tk.2.2.2.1 j hj).1
      have hd := c_holds b1 (d + 3) (S := i) (m := j) (by omega) (by omega)
      have ep : tpP n W P SN i (j + 1) = tpP n W P SN i j - (if i.testBit j then 0 else (W j : Int) * ((P j : Int) - 4)) := by
        unfold tpP
        rw [sumZ_s]
        omega
      by_cases q : i.testBit j = true
      · rw [if_pos q] at ep
        refine ⟨k, ⟨b1, b2, b3, b4, b5, by rw [ep, Int.sub_zero]; exact b6⟩, ?_⟩
        show G_X1_weigh_28 _ _ _ _ _ = G_X1_weigh_28 _ _ _ _ _
        rw [S_X1_weigh_28 b1 (d + 4), e10 k b2, if_pos (nI_lt hj (by omega)), hd, cI_some, if_pos q, if_neg i10, S_X1_weigh_54 b1 (d + 4), nI_1]
      · rw [if_neg q] at ep
        refine ⟨sI k 64 i (zI (tpP n W P SN i (j + 1))), ⟨layI b1 (by decide), sm_trans b2 (sm_sI (by decide)), by rw [gI_sIo _ _ _ _ _ (by decide)]; exact b3, by rw [gI_sIo _ _ _ _ _ (by decide)]; exact b4, fun S hS => by rw [gI_sIs, up_o _ _ (by omega)]; exact b5 S hS, by rw [gI_sIs, up_s]⟩, ?_⟩
        show G_X1_weigh_28 _ _ _ _ _ = G_X1_weigh_28 _ _ _ _ _
        rw [S_X1_weigh_28 b1 (d + 4), e10 k b2, if_pos (nI_lt hj (by omega)), hd, cI_some, if_neg q, if_pos rfl, ck_pos (ib_nI (by omega) (by omega)), ck_pos (ib_nI (by omega) (by omega)), ck_pos (ib_nI (by omega) (by omega)), ck_pos (ib_nI (by omega) (by omega)), lt_def, ix_nI (by omega), ix_nI (by omega), b6, w1, w2, show zI (tpP n W P SN i j) - nI (W j) * (nI (P j) - 4) = zI (tpP n W P SN i (j + 1)) by rw [ep]; simp only [nI_zI, lit_zI, zI_add, zI_mul, zI_sub, zI_neg, if_true, if_false, Bool.false_eq_true]; rfl, S_X1_weigh_54 (layI b1 (by decide)) (d + 4), nI_1]) ⟨L4, sm_trans a2 (sm_sI (by decide)), by rw [gI_sIo _ _ _ _ _ (by decide)]; exact a3, by rw [gI_sIo _ _ _ _ _ (by decide)]; exact a4, fun S hS => by rw [gI_sIs, up_o _ _ (by omega)]; exact a5 S hS, by rw [gI_sIs, up_s]; unfold tpP; show _ = zI (_ - 0); rw [Int.sub_zero]⟩
    obtain ⟨k, ⟨b1, b2, b3, b4, b5, b6⟩, ek⟩ := inner
    refine ⟨(some (.int (nI n)), k), ⟨b1, b2, b3, b4, fun S hS => ?_⟩, ?_⟩
    · by_cases q : S = i
      · subst q; rw [← tpP_n]; exact b6
      · exact b5 S (by omega)
    · show G_X1_weigh_17 _ _ _ _ _ = G_X1_weigh_17 _ _ _ _ _
      rw [S_X1_weigh_17 a1 (d + 4), a4, if_pos (nI_le (by omega) (by omega)), ck_pos (ib_nI (by omega) (by omega)), lt_def, ix_nI (by omega)]
      refine (show G_X1_weigh_28 (d + 4) (zI (tipZ n W P SN)) (nI i) 0 _ = _ from ek).trans ?_
      rw [S_X1_weigh_28 b1 (d + 4), e10 k b2, if_neg (nI_nlt (Nat.le_refl _) (by omega)), nI_1]) ⟨L3, s3, g63.1, g63.2, fun S hS => absurd hS (by omega)⟩
  have e' : G_X1_weigh_17 (d + 4) (zI (tipZ n W P SN)) 0 none h3 = _ := e
  rw [e', S_X1_weigh_17 a1 (d + 4), a4, if_neg (nI_ge (by omega) (by omega))]
  -- who can leave
  obtain ⟨k, ⟨b1, b2, b3, b4⟩, e2⟩ := loop_rel (n := 2 ^ n) (σ := MH) (I := fun i k => lay k ∧ sm SCR h k ∧ WG k n bound (tipS n W P SN) ∧ WJ k w v i) (G := fun i k => G_X1_weigh_60 (d + 4) (zI (tipZ n W P SN)) (nI i) st.1 k) (s := st.2) (fun i k hi ⟨b1, b2, b3, b4⟩ => by
    obtain ⟨k', e', g', j', s', l'⟩ := c_judge b1 d hn tl zb ew ev b3 hi b4
    refine ⟨k', ⟨l', sm_trans b2 s', g', j'⟩, ?_⟩
    show G_X1_weigh_60 _ _ _ _ _ = G_X1_weigh_60 _ _ _ _ _
    rw [S_X1_weigh_60 b1 (d + 4), b3.2.1, if_pos (nI_le (by omega) (by omega)), e', cV_some, nI_1]) ⟨a1, a2, ⟨a3, a4, a5⟩, fun S hS => absurd hS (by omega)⟩
  have e2' : G_X1_weigh_60 (d + 4) (zI (tipZ n W P SN)) 0 st.1 st.2 = _ := e2
  refine ⟨k, ?_, b2, b1, b3, b4⟩
  rw [e2', S_X1_weigh_60 b1 (d + 4), b3.2.1, if_neg (nI_ge (by omega) (by omega))]
section MC
theorem m_canLeave {k : MH} (L : lay k) (d : Nat) {n : Nat} {bound : Nat} {W : Nat → Nat} {P : Nat → Nat} {SN : Nat → Nat} (m : mdl k n W P SN) (hb : bound ≤ 99) {S p : Nat} (hS : S < 2 ^ n) (hp : p < 4) : F_X11_canLeave (d + 3) (nI S) (nI p) (nI bound) k = some (.int (bz (clB (tipS n W P SN) bound S p)), k) := by
  have hn := m.1
  have h16 := pow4 hn
  rw [S_X11_canLeave L (d + 2), m_has' L (d + 1) (by omega) (by omega), cI_some]
  unfold clB
  by_cases q : S.testBit p = true
  · obtain ⟨g1, g2, -⟩ := bit_ge S (by omega) p hp q
    have b1 := tipS_b (mdl_tbd m) (S - 2 ^ p)
    rw [if_pos q, if_neg i10, bit_and S (by omega) p hp q, m_tipOf L d m (by omega), cI_some, m_size L (d + 1) (by omega), cI_some, ← nI_zI, q, Bool.true_and]
    by_cases q2 : (tipS n W P SN (S - 2 ^ p)).natAbs ≤ bound
    · rw [if_pos (nI_le q2 (by omega)), decide_eq_true q2]; rfl
    · rw [if_neg (nI_ge (by omega) (by omega)), decide_eq_false q2]; rfl
  · rw [if_neg q, if_pos rfl, Bool.eq_false_iff.mpr q, Bool.false_and]
    rfl
end MC
theorem clB_hi {n : Nat} (hn : n ≤ 4) {tz : Nat → Int} {bound S p : Nat} (hS : S < 2 ^ n) (h1 : n ≤ p) (h2 : p < 4) : clB tz bound S p = false := by
  unfold clB
  rw [bit_hi n hn S hS p h2 h1, Bool.false_and]
theorem m_layLeaving {c : Nat} {h : MH} (I : INV c h) (d : Nat) {n : Nat} {W P SN : Nat → Nat} {H X wr tn : Nat} (N : NOW h n W P SN H X wr tn) {dt ds : Option Den} (rm : rlM h (gI h 68 3) dt ds) {w : Nat → Nat} {v : Nat → Bool} (ew : ∀ S, w S = wyF (tipS n W P SN) (tpsN dt (nmZ n W P SN H none) (ldZ n W P SN)) S w 4) (ev : ∀ S, v S = wnF (tipS n W P SN) (tpsN dt (nmZ n W P SN H none) (ldZ n W P SN)) S v 4) : ∃ h', F_X11_layLeaving (d + 9) h = some (.int 0, h') ∧ sm SCR h h' ∧ lay h' ∧ MLv h' w v (2 ^ n) := by
  have L := I.1
  have m := NOW_m N
  have hn := m.1
  have u3 : H ≤ 9999 := N.1.2.1.1.2.2
  have h16 := pow4 hn
  have hp2 := Nat.two_pow_pos n
  have tl := tpsN_le dt (nmZ n W P SN H none) (ldZ n W P SN)
  obtain ⟨h1, e1, v1⟩ := m_tipsNow L d m (NOW_H N).2.1 u3 rm
  have L1 : lay h1 := lay_F e1 L rfl
  have s1 : sm SCR h h1 := sm_mono v1 (by decide)
  generalize tpsN dt (nmZ n W P SN H none) (ldZ n W P SN) = bound at e1 tl ew ev
  have ew' : ∀ S, S < 2 ^ n → w S = wyF (tipS n W P SN) bound S w n := by
    intro S hS
    rw [ew S]
    unfold wyF
    rw [sumN_ext hn (fun i h1 h2 => by rw [clB_hi hn hS h1 h2]; rfl)]
  have ev' : ∀ S, S < 2 ^ n → v S = wnF (tipS n W P SN) bound S v n := by
    intro S hS
    rw [ev S]
    unfold wnF
    rw [anyB_ext hn (fun i h1 h2 => by rw [clB_hi hn hS h1 h2]; rfl)]
  rw [S_X11_layLeaving L (d + 8), e1, cI_some]
  obtain ⟨st, ⟨a1, a2, a3⟩, e⟩ := loop_rel (n := 2 ^ n) (σ := Option Value × MH) (I := fun i st => lay st.2 ∧ sm SCR h st.2 ∧ MLv st.2 w v i) (G := fun i st => G_X11_layLeaving_5 (d + 8) (nI bound) (nI i) st.1 st.2) (s := (none, h1)) (fun S st hS ⟨a1, a2, a3⟩ => by
    have mk := NOW_m (NOW_sm a2 N)
    have lp : ∀ s0 : Int64, s0 = lN (wyF (tipS n W P SN) bound S w 0) → ∃ k o, G_X11_layLeaving_22 (d + 8) (nI bound) (nI S) st.1 s0 (nI S) (sI st.2 82 S 0) = G_X11_layLeaving_5 (d + 8) (nI bound) (nI (S + 1)) o k ∧ lay k ∧ sm SCR h k ∧ MLv k w v (S + 1) := by
      intro s0 es
      have L2 : lay (sI st.2 82 S 0) := layI a1 (by decide)
      have L3 : lay (sL (sI st.2 82 S 0) 83 S s0) := layL L2
      have s3 : sm SCR h (sL (sI st.2 82 S 0) 83 S s0) := sm_trans a2 (sm_trans (sm_sI (by decide)) ⟨rfl, fun _ _ => rfl, fun _ _ _ => rfl⟩)
      rw [S_X11_layLeaving_22 L2 (d + 8), ck_pos (ib_nI (by omega) (by omega)), lt_def, ix_nI (by omega)]
      obtain ⟨k, ⟨u1, u2, u4, u5, u6⟩, ek⟩ := loop_rel (n := n) (σ := MH) (I := fun i k => lay k ∧ sm SCR h k ∧ MLv k w v S ∧ gL k 83 S = lN (wyF (tipS n W P SN) bound S w i) ∧ gI k 82 S = bz (wnF (tipS n W P SN) bound S v i)) (G := fun i k => G_X11_layLeaving_25 (d + 8) (nI bound) (nI S) (nI i) k) (s := sL (sI st.2 82 S 0) 83 S s0) (fun i k hi ⟨u1, u2, u4, u5, u6⟩ => by
        have mi := NOW_m (NOW_sm u2 N)
        have cl := m_canLeave u1 (d + 5) mi tl hS (p := i) (by omega)
        have ey : wyF (tipS n W P SN) bound S w (i + 1) = wyF (tipS n W P SN) bound S w i + (if clB (tipS n W P SN) bound S i then w (S - 2 ^ i) else 0) := by unfold wyF; rw [sumN_s, Nat.add_assoc]
        have en : wnF (tipS n W P SN) bound S v (i + 1) = (wnF (tipS n W P SN) bound S v i || (clB (tipS n W P SN) bound S i && !(v (S - 2 ^ i)))) := rfl
        cases q : clB (tipS n W P SN) bound S i with
        | false =>
          rw [q, if_neg (by decide), Nat.add_zero] at ey
          rw [q, Bool.false_and, Bool.or_false] at en
          refine ⟨k, ⟨u1, u2, u4, by rw [ey]; exact u5, by rw [en]; exact u6⟩, ?_⟩
          show G_X11_layLeaving_25 _ _ _ _ _ = G_X11_layLeaving_25 _ _ _ _ _
          rw [S_X11_layLeaving_25 u1 (d + 8), mi.2.1, if_pos (nI_lt hi (by omega)), cl, cI_some, q, if_pos (show bz false = 0 from rfl), S_X11_layLeaving_76 u1 (d + 8), nI_1]
        | true =>
          rw [q, if_pos rfl] at ey
          rw [q, Bool.true_and] at en
          obtain ⟨g1, g2, -⟩ := bit_ge S (by omega) i (by omega) (clB_bit q)
          obtain ⟨y1, y2⟩ := u4 (S - 2 ^ i) g2
          have L9 : lay (sI k 82 S (bz (wnF (tipS n W P SN) bound S v i || !(v (S - 2 ^ i))))) := layI u1 (by decide)
          refine ⟨sL (sI k 82 S (bz (wnF (tipS n W P SN) bound S v i || !(v (S - 2 ^ i))))) 83 S (lN (wyF (tipS n W P SN) bound S w i + w (S - 2 ^ i))), ⟨layL L9, ?_, ?_, ?_, ?_⟩, ?_⟩
          · exact sm_trans u2 (sm_trans (sm_sI (by decide)) ⟨rfl, fun _ _ => rfl, fun _ _ _ => rfl⟩)
          · intro T hT
            obtain ⟨z1, z2⟩ := u4 T hT
            rw [gL_sL, if_pos rfl, up_o _ _ (by omega), gL_sI, gI_sL, gI_sIs, up_o _ _ (by omega)]
            exact ⟨z1, z2⟩
          · rw [gL_sL, if_pos rfl, up_s, ey]
          · rw [gI_sL, gI_sIs, up_s, en]
          · show G_X11_layLeaving_25 _ _ _ _ _ = G_X11_layLeaving_25 _ _ _ _ _
            rw [S_X11_layLeaving_25 u1 (d + 8), mi.2.1, if_pos (nI_lt hi (by omega)), cl, cI_some, q, if_neg bz1, ck_pos (ib_nI (by omega) (by omega)), bit_and S (by omega) i (by omega) (clB_bit q), ck_pos (ib_nI (by omega) (by omega)), ix_nI (n := S - 2 ^ i) (by omega), ix_nI (n := S) (by omega), y2, u6]
            have fin : ∀ b : Bool, G_X11_layLeaving_57 (d + 8) (nI bound) (nI S) (nI i) (bz b) (bz (wnF (tipS n W P SN) bound S v i)) (nI S) k = G_X11_layLeaving_25 (d + 8) (nI bound) (nI S) (nI (i + 1)) (sL (sI k 82 S (bz (wnF (tipS n W P SN) bound S v i || b))) 83 S (lN (wyF (tipS n W P SN) bound S w i + w (S - 2 ^ i)))) := by
              intro b
              have L8 : lay (sI k 82 S (bz (wnF (tipS n W P SN) bound S v i || b))) := layI u1 (by decide)
              rw [S_X11_layLeaving_57 u1 (d + 8), bz_or, ck_pos ⟨ib_nI (by omega) (by omega), bz_01 _⟩, lt_def, ix_nI (n := S) (by omega), ck_pos (ib_nI (by omega) (by omega)), bit_and S (by omega) i (by omega) (clB_bit q), ck_pos (ib_nI (by omega) (by omega)), ck_pos (ib_nI (by omega) (by omega)), lt_def, ix_nI (n := S - 2 ^ i) (by omega), gL_sI, u5, y1, lN_add, S_X11_layLeaving_76 (layL L8) (d + 8), nI_1]
            cases v (S - 2 ^ i) with
            | true => rw [if_neg bz1]; exact fin false
            | false => rw [if_pos (show bz false = 0 from rfl)]; exact fin true) ⟨L3, s3, fun T hT => by
              obtain ⟨z1, z2⟩ := a3 T hT
              rw [gL_sL, if_pos rfl, up_o _ _ (by omega), gL_sI, gI_sL, gI_sIs, up_o _ _ (by omega)]
              exact ⟨z1, z2⟩, by rw [gL_sL, if_pos rfl, up_s, es], by rw [gI_sL, gI_sIs, up_s]; rfl⟩
      refine ⟨k, some (.int (nI n)), ?_, u1, u2, fun T hT => ?_⟩
      · refine (show G_X11_layLeaving_25 (d + 8) (nI bound) (nI S) 0 _ = _ from ek).trans ?_
        rw [S_X11_layLeaving_25 u1 (d + 8), (NOW_m (NOW_sm u2 N)).2.1, if_neg (nI_nlt (Nat.le_refl _) (by omega)), nI_1]
      · by_cases q : T = S
        · subst q
          rw [ew' T hS, ev' T hS]
          exact ⟨u5, u6⟩
        · exact u4 T (by omega)
    have st0 : ∃ k o, G_X11_layLeaving_5 (d + 8) (nI bound) (nI S) st.1 st.2 = G_X11_layLeaving_5 (d + 8) (nI bound) (nI (S + 1)) o k ∧ lay k ∧ sm SCR h k ∧ MLv k w v (S + 1) := by
      rw [S_X11_layLeaving_5 a1 (d + 8), m_everyone a1 (d + 7) mk, cI_some, if_pos (nI_le (by omega) (by omega)), ck_pos (ib_nI (by omega) (by omega)), lt_def, ix_nI (by omega)]
      by_cases q : S = 0
      · rw [if_pos (show nI S = 0 by rw [q]; rfl)]
        exact lp 1 (by unfold wyF; rw [if_pos q]; rfl)
      · rw [if_neg (nI_ne0 (by omega) (by omega))]
        exact lp 0 (by unfold wyF; rw [if_neg q]; rfl)
    obtain ⟨k, o, ek, u1, u2, u3⟩ := st0
    exact ⟨(o, k), ⟨u1, u2, u3⟩, ek⟩) ⟨L1, s1, fun S hS => absurd hS (by omega)⟩
  refine ⟨st.2, ?_, a2, a1, a3⟩
  refine (show G_X11_layLeaving_5 (d + 8) (nI bound) 0 none h1 = _ from e).trans ?_
  rw [S_X11_layLeaving_5 a1 (d + 8), m_everyone a1 (d + 7) (NOW_m (NOW_sm a2 N)), cI_some, if_neg (nI_ge (by omega) (by omega))]
