--deps:19.lay 21.facts 22.00.names 22.01.eq 22.02.eq 22.03.eq 22.04.eq 22.05.eq 22.06.eq 22.07.eq 22.08.eq 22.09.eq 22.10.eq 22.11.eq 22.12.eq 22.13.eq 22.14.eq 22.15.eq 22.16.eq 22.17.eq 22.18.eq 22.19.eq 22.20.eq 22.21.eq 22.22.eq 22.23.eq 23.num 24.town 25.evc 26.evm 27.law 28.says 29.inv 30.api1 31.copy 32.api2 33.api3 34.api4 35.api5 36.deeds 37.hours 38.mdeeds 39.mhours 40.hist 41.full 42.acts 43.acts2 44.played 45.undo 46.trial
/-! SAID, HANDS, LAWS THAT RULE, THE TAPE -/
set_option linter.unusedSectionVars false
theorem stepOK_a {a a' : Nat → Int32} {x m : Nat} (e : ∀ k, x ≤ k → k < x + 47 → a' k = a k) (s : stepOK a x m) : stepOK a' x m := by
  obtain ⟨s1, s2, s3, s4, s5⟩ := s
  exact ⟨by rw [e _ (by omega) (by omega)]; exact s1, by rw [e _ (by omega) (by omega)]; exact s2, by rw [e _ (by omega) (by omega)]; exact s3, fun p hp => by rw [e _ (by omega) (by omega)]; exact s4 p hp, fun c hc => by rw [e _ (by omega) (by omega)]; exact s5 c hc⟩
theorem R1_a {tq w s sn a a' : Nat → Int32} {n : Nat} {W P SN : Nat → Nat} (e : ∀ k, (k = 0 ∨ 9 ≤ k ∧ k < 26) → a' k = a k) (r : R1 tq w s sn a n W P SN) : R1 tq w s sn a' n W P SN := by
  obtain ⟨h1, h2, h3, h4, h5, h6⟩ := r
  exact ⟨h1, h2, by rw [e _ (by omega)]; exact h3, fun p hp => by rw [e _ (by omega)]; exact h4 p hp, fun p hp => by rw [e _ (by omega)]; exact h5 p hp, fun p hp => by rw [e _ (by omega)]; exact h6 p hp⟩
theorem R8_a {st rw a a' : Nat → Int32} {n fst cnt : Nat} {pk : Nat → Nat} (hn : n ≤ 4) (e : ∀ k, (k = 4 ∨ 9 ≤ k ∧ k < 13 ∨ 26 ≤ k ∧ k < 30 ∨ 58 ≤ k ∧ k < 1468) → a' k = a k) (r : R8 st rw a n fst cnt pk) : R8 st rw a' n fst cnt pk := by
  obtain ⟨⟨h1, h2, h3, h4, h5⟩, h6, h7, h8, h9, h10⟩ := r
  refine ⟨⟨h1, h2, h3, h4, by rw [e _ (by omega)]; exact h5⟩, fun k hk j hj => by rw [e _ (by omega)]; exact h6 k hk j hj, fun k hk => ?_, fun k hk p p1 p2 => ?_, fun k hk p p1 p2 => ?_, fun p hp => by rw [e _ (by omega)]; exact h10 p hp⟩
  · obtain ⟨q1, q2, q3⟩ := h7 k hk
    exact ⟨by rw [e _ (by omega)]; exact q1, q2, stepOK_a (fun j _ _ => e _ (by omega)) q3⟩
  · have := (h7 (k + 1) hk).2.1
    rw [e _ (by omega), e _ (by omega)]; exact h8 k hk p p1 p2
  · rw [e _ (by omega), e _ (by omega)]; exact h9 k hk p p1 p2
theorem R5_a {hc hw hg a a' : Nat → Int32} {hn : Nat} {HW HG : Nat → Nat} (e : ∀ k, (k = 1 ∨ 34 ≤ k ∧ k < 42) → a' k = a k) (r : R5 hc hw hg a hn HW HG) : R5 hc hw hg a' hn HW HG := by
  obtain ⟨h1, h2, h3, h4⟩ := r
  exact ⟨h1, h2, by rw [e _ (by omega)]; exact h3, fun k hk => by rw [e _ (by omega), e _ (by omega)]; exact h4 k hk⟩
theorem R6_a {bq bq' a a' : Nat → Int32} {bt : Nat → Nat} {law tn : Nat} (e1 : bq' 4 = bq 4) (e2 : bq' 5 = bq 5) (e : ∀ k, (k = 2 ∨ k = 3) → a' k = a k) (r : R6 bq a bt law tn) : R6 bq' a' bt law tn := by
  obtain ⟨h1, h2, h3, h4⟩ := r
  exact ⟨h1, e1.trans h2, by rw [e _ (by omega)]; exact h3, by rw [e2, e _ (by omega)]; exact h4⟩
theorem R7_a {bq bq' sp ss a a' : Nat → Int32} {n sc : Nat} (e1 : bq' 8 = bq 8) (e : ∀ k, (k = 5 ∨ 42 ≤ k ∧ k < 58) → a' k = a k) (r : R7 bq sp ss a n sc) : R7 bq' sp ss a' n sc := by
  obtain ⟨h1, h2, h3, h4⟩ := r
  exact ⟨h1, e1.trans h2, by rw [e _ (by omega)]; exact h3, fun k hk => by rw [e _ (by omega), e _ (by omega)]; exact h4 k hk⟩
/-- people, town, steps as they were -/
theorem BOR_mk {h h' : MH} {b r n : Nat} {W P SN : Nat → Nat} {H X wr tn tn' : Nat} (B : BOR h b r n W P SN H X wr tn) (e : ∀ j, j ∈ [1, 2, 3, 4, 5, 6, 8, 9] → gI h' (b + j) = gI h (b + j)) (ea : ∀ k, (k = 0 ∨ k = 4 ∨ 6 ≤ k ∧ k < 34 ∨ 58 ≤ k) → gI h' r k = gI h r k) (r5 : ∃ hn HW HG, R5 (gI h' (b + 10)) (gI h' (b + 11)) (gI h' (b + 12)) (gI h' r) hn HW HG) (r6 : R6 (gI h' b) (gI h' r) (gR h' (b + 14)) (gR h' (b + 1) 9) tn') (r7 : ∃ sc, R7 (gI h' b) (gI h' (b + 15)) (gI h' (b + 16)) (gI h' r) n sc) : BOR h' b r n W P SN H X wr tn' := by
  obtain ⟨q1, q2, q3, q4, -, -, -, ⟨fst, cnt, pk, q8⟩⟩ := B
  have hn := q1.1
  unfold BOR
  rw [e 1 (by decide), e 2 (by decide), e 3 (by decide), e 4 (by decide), e 5 (by decide), e 6 (by decide), e 8 (by decide), e 9 (by decide)]
  refine ⟨R1_a (fun k hk => ea k (by omega)) q1, ?_, fun k hk => by rw [ea _ (by omega)]; exact q3 k hk, ⟨fun p hp => by rw [ea _ (by omega)]; exact q4.1 p hp, fun p h1 h2 => by rw [ea _ (by omega)]; exact q4.2 p h1 h2⟩, r5, r6, r7, fst, cnt, pk, R8_a hn (fun k hk => ea k (by omega)) q8⟩
  obtain ⟨⟨a1, a2, a3⟩, ⟨b1, b2, b3⟩, ⟨c1, c2, c3⟩⟩ := q2
  exact ⟨⟨a1, by rw [ea _ (by omega)]; exact a2, a3⟩, ⟨b1, by rw [ea _ (by omega)]; exact b2, b3⟩, ⟨c1, by rw [ea _ (by omega)]; exact c2, c3⟩⟩
theorem INV_B {c : Nat} {h h' : MH} {Z : List Nat} {n : Nat} {W P SN : Nat → Nat} {H X wr tn : Nat} (N : NOW h n W P SN H X wr tn) (K : KEPT h tn) (R : ROOM c h) (s : sm Z h h') (hz : (Z.all fun a => !(decide (26 ≤ a ∧ a ≤ 42) || Nat.beq a 69 || Nat.beq a 23)) = true) (h70 : ¬ 70 ∈ Z) (L : lay h') {n' : Nat} {W' P' SN' : Nat → Nat} {H' X' wr' : Nat} (B : BOR h' 9 68 n' W' P' SN' H' X' wr' tn) (M : MISC h') : INV c h' := by
  have e23 : ¬ 23 ∈ Z := by
    intro hm
    have := List.all_eq_true.mp hz 23 hm
    simp at this
  refine ⟨L, ⟨n', W', P', SN', H', X', wr', tn, ⟨B, ?_⟩, KEPT_z s hz K⟩, M, ROOM_sm s R⟩
  rw [sm_gR s (a := 23) (Or.inl e23)]
  exact fun t ht => txtR_sm s h70 (N.2 t ht)
theorem MISC_z {h h' : MH} {Z : List Nat} (s : sm Z h h') (hz : (Z.all fun a => !(Nat.beq a 50 || Nat.beq a 51 || Nat.beq a 55 || Nat.beq a 67 || Nat.beq a 71)) = true) (M : MISC h) : MISC h' := by
  have nz : ∀ a, a = 50 ∨ a = 51 ∨ a = 55 ∨ a = 67 ∨ a = 71 → ¬ a ∈ Z := by
    intro a ha hm
    have := List.all_eq_true.mp hz a hm
    rcases ha with rfl | rfl | rfl | rfl | rfl <;> simp at this
  unfold MISC
  rw [sm_gI s (nz 50 (by omega)) (by decide), sm_gI s (nz 51 (by omega)) (by decide), sm_gI s (nz 55 (by omega)) (by decide), sm_gI s (nz 67 (by omega)) (by decide), sm_gI s (nz 71 (by omega)) (by decide)]
  exact M
theorem sm_sI {Z : List Nat} {h : MH} {a k : Nat} {v : Int32} (ha : a ∈ Z ∧ a < 84) : sm Z h (sI h a k v) := sm_rI (Or.inl ha)
def zS : List Nat := [9, 24, 25, 68]
theorem A_said {c : Nat} {h : MH} (I : INV c h) (d : Nat) (a b : Int32) : AGI c (F_X10_said (d + 3) a b) (F_X11_said (d + 3) a b) h := by
  have L := I.1
  obtain ⟨_, ⟨n, W, P, SN, H, X, wr, tn, N, K⟩, M, R⟩ := id I
  have t := NOW_t N
  have m := NOW_m N
  have hn := t.1
  obtain ⟨-, -, -, -, ⟨hn5, HW, HG, r5⟩, r6, ⟨sc, s1, s2, s3, s4⟩, -⟩ := N.1
  have s2' : gI h 9 8 = nI sc := s2
  by_cases a1 : a = -1
  · refine ⟨0, sI h 9 8 0, sI (sI h 9 8 0) 68 5 0, by rw [S_X10_said L (d + 2), if_pos a1, lt_def], by rw [S_X11_said (layI L (by decide)) (d + 2), if_pos a1, lt_def], ?_⟩
    have s : sm zS h (sI (sI h 9 8 0) 68 5 0) := sm_trans (sm_sI (by decide)) (sm_sI (by decide))
    have g : ∀ x, ¬ x = 9 → ¬ x = 68 → gI (sI (sI h 9 8 0) 68 5 0) x = gI h x := fun x h1 h2 => by rw [gI_sIo _ _ _ _ _ h2, gI_sIo _ _ _ _ _ h1]
    have g9 : gI (sI (sI h 9 8 0) 68 5 0) 9 = va_up (gI h 9) 8 0 := by rw [gI_sIo _ _ _ _ _ (by decide), gI_sIs]
    have g68 : gI (sI (sI h 9 8 0) 68 5 0) 68 = va_up (gI h 68) 5 0 := by rw [gI_sIs, gI_sIo _ _ _ _ _ (by decide)]
    refine INV_B N K R s (by decide) (by decide) (layI (layI L (by decide)) (by decide)) (BOR_mk N.1 (fun j hj => g _ ?_ ?_) (fun k hk => by rw [g68, up_o _ _ (by omega)]) ⟨hn5, HW, HG, ?_⟩ ?_ ⟨0, ?_⟩) (MISC_z s (by decide) M)
    · revert j; decide
    · revert j; decide
    · rw [g _ (by decide) (by decide), g _ (by decide) (by decide), g _ (by decide) (by decide), g68]
      exact R5_a (fun k hk => up_o _ _ (by omega)) r5
    · rw [g9, g68, sm_gR s (a := 9 + 14) (Or.inl (by decide)), sm_gR s (a := 9 + 1) (Or.inl (by decide))]
      exact R6_a (up_o _ _ (by decide)) (up_o _ _ (by decide)) (fun k hk => up_o _ _ (by omega)) r6
    · rw [g9, g68]
      exact ⟨by omega, up_s _ _ _, up_s _ _ _, fun k hk => absurd hk (by omega)⟩
  rcases ib_cases (a := a) (N := n) (by omega) with ⟨e, -⟩ | ⟨p, hp, rfl, e⟩
  · refine ⟨-2, h, h, ?_, ?_, I⟩
    · rw [S_X10_said L (d + 2), if_neg a1, c_has L d tAt10 t, cI_some, e, if_pos rfl]
    · rw [S_X11_said L (d + 2), if_neg a1, m_isPerson L d m, cI_some, e, if_pos rfl]
  rcases in_cases (a := b) (N := 4) (by omega) with ⟨e2, hne⟩ | ⟨x, hx, rfl, e2⟩
  · have e2' : bI (0 ≤ b ∧ b ≤ 3) = 0 := e2
    refine ⟨-2, h, h, ?_, ?_, I⟩
    · rw [S_X10_said L (d + 2), if_neg a1, c_has L d tAt10 t, cI_some, e, if_neg i10, c_within L, cI_some, e2', if_pos rfl]
    · rw [S_X11_said L (d + 2), if_neg a1, m_isPerson L d m, cI_some, e, if_neg i10, m_isIn L, cI_some, e2', if_pos rfl]
  have e2' : bI (0 ≤ nI x ∧ nI x ≤ 3) = 1 := e2
  have ec : F_X10_said (d + 3) (nI p) (nI x) h = cI (F_X0_hear (d + 2) (nI p) (nI x) h) (fun x8 h7 => some (.int x8, h7)) := by
    rw [S_X10_said L (d + 2), if_neg a1, c_has L d tAt10 t, cI_some, e, if_neg i10, c_within L, cI_some, e2', if_neg i10]
  by_cases c8 : sc = 8
  · refine ⟨-2, h, h, ?_, ?_, I⟩
    · rw [ec, S_X0_hear L (d + 1), s2', c8, if_neg (by decide), cI_some]
    · rw [S_X11_said L (d + 2), if_neg a1, m_isPerson L d m, cI_some, e, if_neg i10, m_isIn L, cI_some, e2', if_neg i10, s3, c8, if_pos (show nI 8 = 8 from rfl)]
  have c8' : sc < 8 := by omega
  generalize hh1 : sI (sI (sI h 24 sc (nI p)) 25 sc (nI x)) 9 8 (nI (sc + 1)) = h1
  have L1 : lay h1 := by rw [← hh1]; exact layI (layI (layI L (by decide)) (by decide)) (by decide)
  have z1 : sm zS h h1 := by rw [← hh1]; exact sm_trans (sm_sI (by decide)) (sm_trans (sm_sI (by decide)) (sm_sI (by decide)))
  have g9 : gI h1 9 = va_up (gI h 9) 8 (nI (sc + 1)) := by rw [← hh1]; simp (disch := decide) only [gI_sIo, gI_sIs]
  have g24 : gI h1 24 = va_up (gI h 24) sc (nI p) := by rw [← hh1]; simp (disch := decide) only [gI_sIo, gI_sIs]
  have g25 : gI h1 25 = va_up (gI h 25) sc (nI x) := by rw [← hh1]; simp (disch := decide) only [gI_sIo, gI_sIs]
  have go : ∀ y, ¬ y = 9 → ¬ y = 24 → ¬ y = 25 → gI h1 y = gI h y := by
    intro y y1 y2 y3
    rw [← hh1]
    simp (disch := assumption) only [gI_sIo]
  have eC : F_X10_said (d + 3) (nI p) (nI x) h = some (.int (nI (sc + 1)), h1) := by
    rw [ec, S_X0_hear L (d + 1), s2', if_pos ((nIl (by omega) (by omega)).mpr c8'), ck_pos (ib_nI (by omega) (by omega)), lt_def, ix_nI (by omega), show gI (sI h 24 sc (nI p)) 9 8 = nI sc by rw [gI_sIo _ _ _ _ _ (by decide)]; exact s2', ck_pos (ib_nI (by omega) (by omega)), lt_def, ix_nI (by omega), lt_def, show gI (sI (sI h 24 sc (nI p)) 25 sc (nI x)) 9 8 = nI sc by rw [gI_sIo _ _ _ _ _ (by decide), gI_sIo _ _ _ _ _ (by decide)]; exact s2', nI_1, hh1, cI_some, g9, up_s]
  generalize hb : va_up (va_up (va_up (gI h 68) (42 + 2 * sc) (nI p)) (42 + 2 * sc + 1) (nI x)) 5 (nI (sc + 1)) = b
  have e68 : gI h1 68 = gI h 68 := go 68 (by decide) (by decide) (by decide)
  have m1 : mdl h1 n W P SN := by unfold mdl; rw [e68]; exact m
  have eM : F_X11_said (d + 3) (nI p) (nI x) h1 = some (.int (nI (sc + 1)), rI h1 68 b) := by
    rw [S_X11_said L1 (d + 2), if_neg a1, m_isPerson L1 d m1, cI_some, e, if_neg i10, m_isIn L1, cI_some, e2', if_neg i10, e68, s3, if_neg (fun q => c8 ((nIe (by omega) (by omega)).mp q)), nIm, nIa, ck_pos (ib_nI (by omega) (by omega)), lt_def, ix_nI (by omega), sI_def h1, e68, gI_rIs, up_o _ _ (by omega), s3, nIm, nIa, nI_1, ck_pos (ib_nI (by omega) (by omega)), lt_def, ix_nI (by omega), sI_rI, lt_def, gI_rIs, up_o _ _ (by omega), up_o _ _ (by omega), s3, nI_1, sI_rI, hb, gI_rIs, ← hb, up_s]
  refine ⟨nI (sc + 1), h1, rI h1 68 b, eC, eM, ?_⟩
  have b5 : b 5 = nI (sc + 1) := by rw [← hb, up_s]
  have bo : ∀ k, ¬ k = 5 → ¬ k = 42 + 2 * sc → ¬ k = 43 + 2 * sc → b k = gI h 68 k := by
    intro k k1 k2 k3
    rw [← hb, up_o _ _ k1, up_o _ _ (by omega), up_o _ _ k2]
  have s : sm zS h (rI h1 68 b) := sm_trans z1 (sm_rI (Or.inl ⟨by decide, by decide⟩))
  refine INV_B N K R s (by decide) (by decide) (lay_rI L1 (by decide)) (BOR_mk N.1 (fun j hj => ?_) (fun k hk => by rw [gI_rIs]; exact bo k (by omega) (by omega) (by omega)) ⟨hn5, HW, HG, ?_⟩ ?_ ⟨sc + 1, ?_⟩) (MISC_z s (by decide) M)
  · rw [gI_rI', go]
    all_goals (revert j; decide)
  · rw [gI_rI' _ _ _ _ (by decide), gI_rI' _ _ _ _ (by decide), gI_rI' _ _ _ _ (by decide), go _ (by decide) (by decide) (by decide), go _ (by decide) (by decide) (by decide), go _ (by decide) (by decide) (by decide), gI_rIs]
    exact R5_a (fun k hk => bo k (by omega) (by omega) (by omega)) r5
  · rw [gI_rI' _ _ 9 _ (by decide), g9, gI_rIs, sm_gR s (a := 9 + 14) (Or.inl (by decide)), sm_gR s (a := 9 + 1) (Or.inl (by decide))]
    exact R6_a (up_o _ _ (by decide)) (up_o _ _ (by decide)) (fun k hk => bo k (by omega) (by omega) (by omega)) r6
  · rw [gI_rI' _ _ 9 _ (by decide), g9, gI_rIs, gI_rI' _ _ (9 + 15) _ (by decide), gI_rI' _ _ (9 + 16) _ (by decide), show gI h1 (9 + 15) = va_up (gI h 24) sc (nI p) from g24, show gI h1 (9 + 16) = va_up (gI h 25) sc (nI x) from g25]
    refine ⟨by omega, up_s _ _ _, b5, fun k hk => ?_⟩
    by_cases q : k = sc
    · subst q
      refine ⟨p, x, hp, by omega, up_s _ _ _, ?_, up_s _ _ _, ?_⟩
      · rw [← hb, up_o _ _ (by omega), up_o _ _ (by omega), up_s]
      · rw [← hb, up_o _ _ (by omega), show 43 + 2 * k = 42 + 2 * k + 1 by omega, up_s]
    · rw [up_o _ _ q, up_o _ _ q, bo _ (by omega) (by omega) (by omega), bo _ (by omega) (by omega) (by omega)]
      exact s4 k (by omega)
