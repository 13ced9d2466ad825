--deps:19.lay 21.facts 22.00.names 22.01.eq 22.02.eq 22.03.eq 22.04.eq 22.05.eq 22.06.eq 22.07.eq 22.08.eq 22.09.eq 22.10.eq 22.11.eq 22.12.eq 22.13.eq 22.14.eq 22.15.eq 22.16.eq 22.17.eq 22.18.eq 22.19.eq 22.20.eq 22.21.eq 22.22.eq 22.23.eq 23.num 24.town 25.evc 26.evm 27.law 28.says 29.inv 30.api1 31.copy 32.api2 33.api3 34.api4 35.api5 36.deeds 37.hours 38.mdeeds 39.mhours 40.hist 41.full 42.acts 43.acts2 44.played 45.undo 46.trial 47.sets
/-! HANDS, LAWS THAT RULE, THE TAPE -/
set_option linter.unusedSectionVars false
def zH : List Nat := [19, 20, 21, 68]
theorem A_hand {c : Nat} {h : MH} (I : INV c h) (d : Nat) (a b : Int32) : AGI c (F_X10_hand (d + 2) a b) (F_X11_hand (d + 2) a b) h := by
  have L := I.1
  obtain ⟨_, ⟨n, W, P, SN, H, X, wr, tn, N, K⟩, M, R⟩ := id I
  by_cases ha : ¬ (1 ≤ a ∧ a ≤ 9)
  · refine ⟨-1, h, h, ?_, ?_, I⟩
    · rw [S_X10_hand L (d + 1), c_within L, cI_some, bI_neg ha, if_pos rfl]
    · rw [S_X11_hand L (d + 1), m_isIn L, cI_some, bI_neg ha, if_pos rfl]
  replace ha := Classical.not_not.mp ha
  rcases in_cases (a := b) (N := 100) (by omega) with ⟨e, hne⟩ | ⟨x, hx, rfl, e⟩
  · have e' : bI (0 ≤ b ∧ b ≤ 99) = 0 := e
    refine ⟨-1, h, h, ?_, ?_, I⟩
    · rw [S_X10_hand L (d + 1), c_within L, cI_some, bI_pos ha, if_neg i10, c_within L, cI_some, e', if_pos rfl]
    · rw [S_X11_hand L (d + 1), m_isIn L, cI_some, bI_pos ha, if_neg i10, m_isIn L, cI_some, e', if_pos rfl]
  have e' : bI (0 ≤ nI x ∧ nI x ≤ 99) = 1 := e
  obtain ⟨w, hw1, hw, rfl⟩ := arg_1 (N := 9) (by omega) ha
  obtain ⟨-, -, -, -, ⟨k0, HW, HG, y1, y2, y3, y4⟩, r6, ⟨sc, r7⟩, -⟩ := N.1
  have y2' : gI h 19 3 = nI k0 := y2
  have ec : F_X10_hand (d + 2) (nI w) (nI x) h = cI (F_X2_hire (d + 1) (nI w) (nI x) h) (fun x6 h5 => some (.int x6, h5)) := by
    rw [S_X10_hand L (d + 1), c_within L, cI_some, bI_pos ha, if_neg i10, c_within L, cI_some, e', if_neg i10]
  by_cases c4 : k0 = 4
  · refine ⟨-1, h, h, ?_, ?_, I⟩
    · rw [ec, S_X2_hire L d, y2', c4, if_neg (by decide), cI_some]
    · rw [S_X11_hand L (d + 1), m_isIn L, cI_some, bI_pos ha, if_neg i10, m_isIn L, cI_some, e', if_neg i10, y3, c4, if_pos (show nI 4 = 4 from rfl)]
  have c4' : k0 < 4 := by omega
  generalize hh1 : sI (sI (sI h 20 k0 (nI w)) 21 k0 (nI x)) 19 3 (nI (k0 + 1)) = h1
  have L1 : lay h1 := by rw [← hh1]; exact layI (layI (layI L (by decide)) (by decide)) (by decide)
  have z1 : sm zH h h1 := by rw [← hh1]; exact sm_trans (sm_sI (by decide)) (sm_trans (sm_sI (by decide)) (sm_sI (by decide)))
  have g19 : gI h1 19 = va_up (gI h 19) 3 (nI (k0 + 1)) := by rw [← hh1]; simp (disch := decide) only [gI_sIo, gI_sIs]
  have g20 : gI h1 20 = va_up (gI h 20) k0 (nI w) := by rw [← hh1]; simp (disch := decide) only [gI_sIo, gI_sIs]
  have g21 : gI h1 21 = va_up (gI h 21) k0 (nI x) := by rw [← hh1]; simp (disch := decide) only [gI_sIo, gI_sIs]
  have go : ∀ y, ¬ y = 19 → ¬ y = 20 → ¬ y = 21 → gI h1 y = gI h y := by
    intro y y1 y2 y3
    rw [← hh1]
    simp (disch := assumption) only [gI_sIo]
  have eC : F_X10_hand (d + 2) (nI w) (nI x) h = some (.int (nI k0), h1) := by
    rw [ec, S_X2_hire L d, y2', if_pos ((nIl (by omega) (by omega)).mpr c4'), ck_pos (ib_nI (by omega) (by omega)), lt_def, ix_nI (by omega), show gI (sI h 20 k0 (nI w)) 19 3 = nI k0 by rw [gI_sIo _ _ _ _ _ (by decide)]; exact y2', ck_pos (ib_nI (by omega) (by omega)), lt_def, ix_nI (by omega), lt_def, show gI (sI (sI h 20 k0 (nI w)) 21 k0 (nI x)) 19 3 = nI k0 by rw [gI_sIo _ _ _ _ _ (by decide), gI_sIo _ _ _ _ _ (by decide)]; exact y2', nI_1, hh1, cI_some, g19, up_s, nI_pred]
  generalize hb : va_up (va_up (va_up (gI h 68) (34 + 2 * k0) (nI w)) (34 + 2 * k0 + 1) (nI x)) 1 (nI (k0 + 1)) = b
  have e68 : gI h1 68 = gI h 68 := go 68 (by decide) (by decide) (by decide)
  have eM : F_X11_hand (d + 2) (nI w) (nI x) h1 = some (.int (nI k0), rI h1 68 b) := by
    rw [S_X11_hand L1 (d + 1), m_isIn L1, cI_some, bI_pos ha, if_neg i10, m_isIn L1, cI_some, e', if_neg i10, e68, y3, if_neg (fun q => c4 ((nIe (by omega) (by omega)).mp q)), nIm, nIa, ck_pos (ib_nI (by omega) (by omega)), lt_def, ix_nI (by omega), sI_def h1, e68, gI_rIs, up_o _ _ (by omega), y3, nIm, nIa, nI_1, ck_pos (ib_nI (by omega) (by omega)), lt_def, ix_nI (by omega), sI_rI, lt_def, gI_rIs, up_o _ _ (by omega), up_o _ _ (by omega), y3, nI_1, sI_rI, hb, gI_rIs, ← hb, up_s, nI_pred]
  refine ⟨nI k0, h1, rI h1 68 b, eC, eM, ?_⟩
  have b1 : b 1 = nI (k0 + 1) := by rw [← hb, up_s]
  have bo : ∀ k, ¬ k = 1 → ¬ k = 34 + 2 * k0 → ¬ k = 35 + 2 * k0 → b k = gI h 68 k := by
    intro k k1 k2 k3
    rw [← hb, up_o _ _ k1, up_o _ _ (by omega), up_o _ _ k2]
  have s : sm zH h (rI h1 68 b) := sm_trans z1 (sm_rI (Or.inl ⟨by decide, by decide⟩))
  refine INV_B N K R s (by decide) (by decide) (lay_rI L1 (by decide)) (BOR_mk N.1 (fun j hj => ?_) (fun k hk => by rw [gI_rIs]; exact bo k (by omega) (by omega) (by omega)) ⟨k0 + 1, va_up HW k0 w, va_up HG k0 x, ?_⟩ ?_ ⟨sc, ?_⟩) (MISC_z s (by decide) M)
  · rw [gI_rI', go]
    all_goals (revert j; decide)
  · rw [gI_rI' _ _ (9 + 10) _ (by decide), gI_rI' _ _ (9 + 11) _ (by decide), gI_rI' _ _ (9 + 12) _ (by decide), show gI h1 (9 + 10) = va_up (gI h 19) 3 (nI (k0 + 1)) from g19, show gI h1 (9 + 11) = va_up (gI h 20) k0 (nI w) from g20, show gI h1 (9 + 12) = va_up (gI h 21) k0 (nI x) from g21, gI_rIs]
    refine ⟨by omega, up_s _ _ _, b1, fun k hk => ?_⟩
    by_cases q : k = k0
    · subst q
      rw [up_s, up_s, up_s, up_s, ← hb, up_o _ _ (by omega), up_o _ _ (by omega), up_s, up_o _ _ (by omega), show 35 + 2 * k = 34 + 2 * k + 1 by omega, up_s]
      exact ⟨⟨rfl, rfl, hw1, hw⟩, rfl, rfl, by omega⟩
    · rw [up_o _ _ q, up_o _ _ q, up_o _ _ q, up_o _ _ q, bo _ (by omega) (by omega) (by omega), bo _ (by omega) (by omega) (by omega)]
      exact y4 k (by omega)
  · rw [gI_rI' _ _ 9 _ (by decide), go 9 (by decide) (by decide) (by decide), gI_rIs, sm_gR s (a := 9 + 14) (Or.inl (by decide)), sm_gR s (a := 9 + 1) (Or.inl (by decide))]
    exact R6_a rfl rfl (fun k hk => bo k (by omega) (by omega) (by omega)) r6
  · rw [gI_rI' _ _ 9 _ (by decide), go 9 (by decide) (by decide) (by decide), gI_rIs, gI_rI' _ _ (9 + 15) _ (by decide), gI_rI' _ _ (9 + 16) _ (by decide), go (9 + 15) (by decide) (by decide) (by decide), go (9 + 16) (by decide) (by decide) (by decide)]
    exact R7_a rfl (fun k hk => bo k (by omega) (by omega) (by omega)) r7
theorem sm_sR {Z : List Nat} {h : MH} {a k v : Nat} (ha : a ∈ Z ∧ a < 84) : sm Z h (sR h a k v) := by
  refine ⟨rfl, fun b hb => ?_, fun _ _ _ => rfl⟩
  rw [gR_sRo]
  rintro rfl
  rcases hb with hb | hb
  · exact hb ha.1
  · omega
def zB : List Nat := [9, 10, 68]
theorem A_by {c : Nat} {h : MH} (I : INV c h) (d : Nat) (a : Int32) : AGI c (F_X10_by (d + 4) a) (F_X11_by (d + 4) a) h := by
  have L := I.1
  obtain ⟨_, ⟨n, W, P, SN, H, X, wr, tn, N, K⟩, M, R⟩ := id I
  obtain ⟨-, -, -, -, ⟨hn5, HW, HG, r5⟩, ⟨t1, t2, t3, t4⟩, ⟨sc, r7⟩, -⟩ := N.1
  have t2' : gI h 9 4 = nI tn := t2
  by_cases hb : ¬ (-1 ≤ a ∧ a ≤ nI tn - 1)
  · refine ⟨0, h, h, ?_, ?_, I⟩
    · rw [S_X10_by L (d + 3), c_within L, cI_some, t2', bI_neg hb, if_pos rfl]
    · rw [S_X11_by L (d + 3), m_isIn L, cI_some, t3, bI_neg hb, if_pos rfl]
  replace hb := Classical.not_not.mp hb
  -- the law that rules then
  have key : ∃ law, (a = -1 ∧ law = 0 ∨ ∃ t, t < tn ∧ a = nI t ∧ law = gR h 23 t) ∧ ∀ k, lay k → gI k 9 4 = nI tn → gR k 23 = gR h 23 → F_X0_textOf (d + 2) a k = some (.ref law, k) := by
    by_cases q : a < 0
    · have a1 : a = -1 := by
        have h1 := hb.1
        rw [Int32.le_iff_toInt_le] at h1
        rw [Int32.lt_iff_toInt_lt] at q
        have e0 : (0 : Int32).toInt = 0 := by decide
        have e1 : (-1 : Int32).toInt = -1 := by decide
        apply Int32.toInt_inj.mp
        omega
      refine ⟨0, Or.inl ⟨a1, rfl⟩, fun k Lk ek er => ?_⟩
      rw [S_X0_textOf Lk (d + 1), c_within Lk, cI_some, bI_neg (fun w => absurd q (Int32.not_lt.mpr w.1)), if_pos rfl]
    · have h0 : 0 ≤ a := Int32.not_lt.mp q
      obtain ⟨t, ht, rfl⟩ := ib_at ((ib_iff (by omega)).mp ⟨h0, hb.2⟩) (by omega)
      refine ⟨gR h 23 t, Or.inr ⟨t, ht, rfl, rfl⟩, fun k Lk ek er => ?_⟩
      rw [S_X0_textOf Lk (d + 1), c_within Lk, cI_some, ek, bI_pos ⟨h0, hb.2⟩, if_neg i10, ck_pos (ib_nI (by omega) (by omega)), ix_nI (by omega), er]
  obtain ⟨law, hl, hT⟩ := key
  have L1 : lay (sI h 9 5 a) := layI L (by decide)
  have eT := hT (sI h 9 5 a) L1 (by rw [gI_sIs, up_o _ _ (by decide)]; exact t2') rfl
  generalize hh1 : sR (sI h 9 5 a) 10 9 law = h1
  have L2 : lay h1 := by rw [← hh1]; exact layRT L1 tAt10
  have eC : F_X10_by (d + 4) a h = some (.int 1, h1) := by
    rw [S_X10_by L (d + 3), c_within L, cI_some, t2', bI_pos hb, if_neg i10, S_X0_rule L (d + 2), lt_def, eT, cR_some, lt_def, hh1, cV_some]
  have g68 : gI h1 68 = gI h 68 := by rw [← hh1, gI_sR, gI_sIo _ _ _ _ _ (by decide)]
  have eM : F_X11_by (d + 4) a h1 = some (.int 1, sI h1 68 3 a) := by
    rw [S_X11_by L2 (d + 3), m_isIn L2, cI_some, g68, t3, bI_pos hb, if_neg i10, lt_def]
  refine ⟨1, h1, sI h1 68 3 a, eC, eM, ?_⟩
  have s : sm zB h (sI h1 68 3 a) := by
    rw [← hh1]
    exact sm_trans (sm_sI (by decide)) (sm_trans (sm_sR (by decide)) (sm_sI (by decide)))
  have g : ∀ x, ¬ x = 9 → ¬ x = 68 → gI (sI h1 68 3 a) x = gI h x := fun x h1' h2 => by rw [gI_sIo _ _ _ _ _ h2, ← hh1, gI_sR, gI_sIo _ _ _ _ _ h1']
  have g9 : gI (sI h1 68 3 a) 9 = va_up (gI h 9) 5 a := by rw [gI_sIo _ _ _ _ _ (by decide), ← hh1, gI_sR, gI_sIs]
  have g68' : gI (sI h1 68 3 a) 68 = va_up (gI h 68) 3 a := by rw [gI_sIs, g68]
  have r10 : gR (sI h1 68 3 a) (9 + 1) 9 = law := by
    rw [gR_sI, ← hh1]
    show gR (sR (sI h 9 5 a) 10 9 law) 10 9 = law
    rw [gR_sRs, up_s]
  refine INV_B N K R s (by decide) (by decide) (layI L2 (by decide)) (BOR_mk N.1 (fun j hj => g _ ?_ ?_) (fun k hk => by rw [g68', up_o _ _ (by omega)]) ⟨hn5, HW, HG, ?_⟩ ?_ ⟨sc, ?_⟩) (MISC_z s (by decide) M)
  · revert j; decide
  · revert j; decide
  · rw [g _ (by decide) (by decide), g _ (by decide) (by decide), g _ (by decide) (by decide), g68']
    exact R5_a (fun k hk => up_o _ _ (by omega)) r5
  · rw [g9, g68', sm_gR s (a := 9 + 14) (Or.inl (by decide)), r10]
    refine ⟨t1, by rw [up_o _ _ (by decide)]; exact t2, by rw [up_o _ _ (by decide)]; exact t3, ?_⟩
    rw [up_s, up_s]
    rcases hl with ⟨l1, l2⟩ | ⟨t, l1, l2, l3⟩
    · exact Or.inl ⟨l1, l1, l2⟩
    · exact Or.inr ⟨t, l1, l2, l2, l3⟩
  · rw [g9, g68', g _ (by decide) (by decide), g _ (by decide) (by decide)]
    exact R7_a (up_o _ _ (by decide)) (fun k hk => up_o _ _ (by omega)) r7
/-! the tape -/
def zT : List Nat := [50, 51, 67, 71]
theorem INV_T {c : Nat} {h h' : MH} (s : sm zT h h') (L : lay h') (I : INV c h) (M : MISC h') : INV c h' := by
  obtain ⟨_, ⟨n, W, P, SN, H, X, wr, tn, N, K⟩, _, R⟩ := I
  refine INV_B N K R s (by decide) (by decide) L (BOR_eq (fun j hj => sm_gI s ?_ ?_) (sm_gI s (by decide) (by decide)) (sm_gR s (Or.inl (by decide))) (sm_gR s (Or.inl (by decide))) N.1) M
  · revert j; decide
  · revert j; decide
theorem A_end {c : Nat} {h : MH} (I : INV c h) (d : Nat) (a : Int32) : AGI c (F_X10_end (d + 2) a) (F_X11_end (d + 2) a) h := by
  have L := I.1
  obtain ⟨_, _, ⟨⟨len, l1, l2, l3⟩, M2, M3, M4, M5⟩, R⟩ := id I
  by_cases hb : ¬ (0 ≤ a ∧ a ≤ nI len)
  · refine ⟨-1, h, h, ?_, ?_, I⟩
    · rw [S_X10_end L (d + 1), c_within L, cI_some, l2, bI_neg hb, if_pos rfl]
    · rw [S_X11_end L (d + 1), m_isIn L, cI_some, l3, bI_neg hb, if_pos rfl]
  replace hb := Classical.not_not.mp hb
  obtain ⟨j, hj, rfl⟩ := nI_of (x := a) (Int32.not_lt.mpr hb.1)
  have hj' : j ≤ len := (nI_leI hj (by omega)).mp hb.2
  have L1 : lay (sI h 50 1 (nI j)) := layI L (by decide)
  refine ⟨nI j, sI h 50 1 (nI j), sI (sI h 50 1 (nI j)) 67 4 (nI j), ?_, ?_, INV_T (sm_trans (sm_sI (by decide)) (sm_sI (by decide))) (layI L1 (by decide)) I ?_⟩
  · rw [S_X10_end L (d + 1), c_within L, cI_some, l2, bI_pos hb, if_neg i10, lt_def]
  · rw [S_X11_end L1 (d + 1), m_isIn L1, cI_some, gI_sIo _ _ _ _ _ (by decide), l3, bI_pos hb, if_neg i10, lt_def]
  · unfold MISC
    rw [gI_sIs, gI_sIo _ _ _ 50 _ (by decide), gI_sIo _ _ _ 51 _ (by decide), gI_sIo _ _ _ 71 _ (by decide), gI_sIo _ _ _ 55 _ (by decide), gI_sIs, gI_sIo _ _ _ 67 _ (by decide), gI_sIo _ _ _ 51 _ (by decide), gI_sIo _ _ _ 71 _ (by decide), gI_sIo _ _ _ 55 _ (by decide), up_s, up_s, up_o _ _ (by decide), up_o _ _ (by decide), up_o _ _ (by decide)]
    exact ⟨⟨j, by omega, rfl, rfl⟩, M2, M3, M4, M5⟩
/-- a byte of four -/
def byt (v : Int32) (k : Int32) : Int32 := (v >>> (k &&& 31)) &&& 255
theorem byt_b (v k : Int32) : ∃ b, b < 256 ∧ byt v k = nI b := pk_andE _ 8 (by decide)
/-- four bytes behind the tape, on one side -/
def fourF (f : Nat → Int32) (len : Nat) (v : Int32) : Nat → Int32 := va_up (va_up (va_up (va_up f len (byt v 24)) (len + 1) (byt v 16)) (len + 2) (byt v 8)) (len + 3) (byt v 0)
theorem c_append {h : MH} (L : lay h) (d : Nat) {len : Nat} (hl : len + 4 ≤ 300) (e : gI h 50 1 = nI len) (v : Int32) : ∃ h', F_X7_append (d + 1) v h = some (.int 0, h') ∧ gI h' 50 1 = nI (len + 4) ∧ gI h' 51 = fourF (gI h 51) len v ∧ sm [50, 51] h h' ∧ lay h' := by
  have one : ∀ (k : MH) (n : Nat) (l2 : Int32), lay k → n < 300 → gI k 50 1 = nI n → ¬ l2 < 0 → ∃ k', G_X7_append_2 d v l2 k = G_X7_append_2 d v (l2 + (-8)) k' ∧ gI k' 50 1 = nI (n + 1) ∧ gI k' 51 = va_up (gI k 51) n (byt v l2) ∧ sm [50, 51] k k' ∧ lay k' := by
    intro k n l2 Lk hn ek h0
    rw [S_X7_append_2 Lk d, if_neg h0, ek, if_pos ((nIl (by omega) (by omega)).mpr hn), ck_pos (ib_nI (by omega) (by omega)), lt_def, ix_nI (by omega), lt_def]
    refine ⟨_, rfl, ?_, ?_, sm_trans (sm_sI (by decide)) (sm_sI (by decide)), layI (layI Lk (by decide)) (by decide)⟩
    · rw [gI_sIs, up_s, gI_sIo _ _ _ _ _ (by decide), ek, nI_1]
    · rw [gI_sIo _ _ _ _ _ (by decide), gI_sIs]
      rfl
  obtain ⟨k1, e1, a1, b1, s1, L1⟩ := one h len 24 L (by omega) e (by decide)
  obtain ⟨k2, e2, a2, b2, s2, L2⟩ := one k1 (len + 1) 16 L1 (by omega) a1 (by decide)
  obtain ⟨k3, e3, a3, b3, s3, L3⟩ := one k2 (len + 2) 8 L2 (by omega) a2 (by decide)
  obtain ⟨k4, e4, a4, b4, s4, L4⟩ := one k3 (len + 3) 0 L3 (by omega) a3 (by decide)
  refine ⟨k4, ?_, a4, ?_, sm_trans s1 (sm_trans s2 (sm_trans s3 s4)), L4⟩
  · rw [S_X7_append L d, e1, show (24 : Int32) + (-8) = 16 by decide, e2, show (16 : Int32) + (-8) = 8 by decide, e3, show (8 : Int32) + (-8) = 0 by decide, e4, S_X7_append_2 L4 d, if_pos (by decide)]
  · rw [b4, b3, b2, b1]
    rfl
theorem m_four {h : MH} (L : lay h) (d : Nat) {len : Nat} (hl : len + 4 ≤ 300) (e : gI h 67 4 = nI len) (v : Int32) : ∃ h', F_X11_four (d + 1) v h = some (.int 0, h') ∧ gI h' 67 4 = nI (len + 4) ∧ (∀ k, ¬ k = 4 → gI h' 67 k = gI h 67 k) ∧ gI h' 71 = fourF (gI h 71) len v ∧ sm [67, 71] h h' ∧ lay h' := by
  have one : ∀ (k : MH) (n : Nat) (l2 : Int32), lay k → n < 300 → gI k 67 4 = nI n → ¬ l2 < 0 → ∃ k', G_X11_four_2 d v l2 k = G_X11_four_2 d v (l2 + (-8)) k' ∧ gI k' 67 4 = nI (n + 1) ∧ (∀ j, ¬ j = 4 → gI k' 67 j = gI k 67 j) ∧ gI k' 71 = va_up (gI k 71) n (byt v l2) ∧ sm [67, 71] k k' ∧ lay k' := by
    intro k n l2 Lk hn ek h0
    rw [S_X11_four_2 Lk d, if_neg h0, ek, ck_pos (ib_nI (by omega) (by omega)), lt_def, ix_nI (by omega), lt_def]
    refine ⟨_, rfl, ?_, fun j hj => ?_, ?_, sm_trans (sm_sI (by decide)) (sm_sI (by decide)), layI (layI Lk (by decide)) (by decide)⟩
    · rw [gI_sIs, up_s, gI_sIo _ _ _ _ _ (by decide), ek, nI_1]
    · rw [gI_sIs, up_o _ _ hj, gI_sIo _ _ _ _ _ (by decide)]
    · rw [gI_sIo _ _ _ _ _ (by decide), gI_sIs]
      rfl
  obtain ⟨k1, e1, a1, c1, b1, s1, L1⟩ := one h len 24 L (by omega) e (by decide)
  obtain ⟨k2, e2, a2, c2, b2, s2, L2⟩ := one k1 (len + 1) 16 L1 (by omega) a1 (by decide)
  obtain ⟨k3, e3, a3, c3, b3, s3, L3⟩ := one k2 (len + 2) 8 L2 (by omega) a2 (by decide)
  obtain ⟨k4, e4, a4, c4, b4, s4, L4⟩ := one k3 (len + 3) 0 L3 (by omega) a3 (by decide)
  refine ⟨k4, ?_, a4, fun j hj => by rw [c4 j hj, c3 j hj, c2 j hj, c1 j hj], ?_, sm_trans s1 (sm_trans s2 (sm_trans s3 s4)), L4⟩
  · rw [S_X11_four L d, e1, show (24 : Int32) + (-8) = 16 by decide, e2, show (16 : Int32) + (-8) = 8 by decide, e3, show (8 : Int32) + (-8) = 0 by decide, e4, S_X11_four_2 L4 d, if_pos (by decide)]
  · rw [b4, b3, b2, b1]
    rfl
theorem four_b {f g : Nat → Int32} (h : ∀ k, k < 300 → f k = g k ∧ ∃ b, b < 256 ∧ f k = nI b) (len : Nat) (v : Int32) : ∀ k, k < 300 → fourF f len v k = fourF g len v k ∧ ∃ b, b < 256 ∧ fourF f len v k = nI b := by
  have up : ∀ {f g : Nat → Int32} (j : Nat) (x : Int32), (∃ b, b < 256 ∧ x = nI b) → (∀ k, k < 300 → f k = g k ∧ ∃ b, b < 256 ∧ f k = nI b) → ∀ k, k < 300 → va_up f j x k = va_up g j x k ∧ ∃ b, b < 256 ∧ va_up f j x k = nI b := by
    intro f g j x hx hfg k hk
    by_cases e : k = j
    · subst e; rw [up_s, up_s]; exact ⟨rfl, hx⟩
    · rw [up_o _ _ e, up_o _ _ e]; exact hfg k hk
  unfold fourF
  exact up _ _ (byt_b _ _) (up _ _ (byt_b _ _) (up _ _ (byt_b _ _) (up _ _ (byt_b _ _) h)))
theorem A_feed {c : Nat} {h : MH} (I : INV c h) (d : Nat) (v1 v2 v3 v4 v5 : Int32) : AGI c (F_X10_feed (d + 2) v1 v2 v3 v4 v5) (F_X11_feed (d + 2) v1 v2 v3 v4 v5) h := by
  have L := I.1
  obtain ⟨_, _, ⟨⟨len, l1, l2, l3⟩, M2, M3, M4, M5⟩, R⟩ := id I
  by_cases hl : ¬ len + 20 ≤ 300
  · refine ⟨-1, h, h, ?_, ?_, I⟩
    · rw [S_X10_feed L (d + 1), l2, nIb, if_neg (fun q => hl ((nIL (by omega) (by omega)).mp q))]
    · rw [S_X11_feed L (d + 1), l3, nIb, if_neg (fun q => hl ((nIL (by omega) (by omega)).mp q))]
  replace hl := Classical.not_not.mp hl
  obtain ⟨k1, e1, a1, b1, s1, L1⟩ := c_append L d (by omega) l2 v1
  obtain ⟨k2, e2, a2, b2, s2, L2⟩ := c_append L1 d (by omega) a1 v2
  obtain ⟨k3, e3, a3, b3, s3, L3⟩ := c_append L2 d (by omega) a2 v3
  obtain ⟨k4, e4, a4, b4, s4, L4⟩ := c_append L3 d (by omega) a3 v4
  obtain ⟨k5, e5, a5, b5, s5, L5⟩ := c_append L4 d (by omega) a4 v5
  have s15 := sm_trans s1 (sm_trans s2 (sm_trans s3 (sm_trans s4 s5)))
  have g67 : gI k5 67 = gI h 67 := sm_gI s15 (by decide) (by decide)
  have g71 : gI k5 71 = gI h 71 := sm_gI s15 (by decide) (by decide)
  have g55 : gI k5 55 = gI h 55 := sm_gI s15 (by decide) (by decide)
  obtain ⟨j1, f1, p1, q1, r1, t1, N1⟩ := m_four L5 d (len := len) (by omega) (by rw [g67]; exact l3) v1
  obtain ⟨j2, f2, p2, q2, r2, t2, N2⟩ := m_four N1 d (by omega) p1 v2
  obtain ⟨j3, f3, p3, q3, r3, t3, N3⟩ := m_four N2 d (by omega) p2 v3
  obtain ⟨j4, f4, p4, q4, r4, t4, N4⟩ := m_four N3 d (by omega) p3 v4
  obtain ⟨j5, f5, p5, q5, r5, t5, N5⟩ := m_four N4 d (by omega) p4 v5
  have t15 := sm_trans t1 (sm_trans t2 (sm_trans t3 (sm_trans t4 t5)))
  refine ⟨nI (len + 4 + 4 + 4 + 4 + 4), k5, j5, ?_, ?_, INV_T (sm_trans (sm_mono s15 (by decide)) (sm_mono t15 (by decide))) N5 I ?_⟩
  · rw [S_X10_feed L (d + 1), l2, nIb, if_pos ((nIL (by omega) (by omega)).mpr hl), e1, cV_some, e2, cV_some, e3, cV_some, e4, cV_some, e5, cV_some, a5]
  · rw [S_X11_feed L5 (d + 1), g67, l3, nIb, if_pos ((nIL (by omega) (by omega)).mpr hl), f1, cV_some, f2, cV_some, f3, cV_some, f4, cV_some, f5, cV_some, p5]
  · unfold MISC
    have q : ∀ k, ¬ k = 4 → gI j5 67 k = gI h 67 k := fun k hk => by rw [q5 k hk, q4 k hk, q3 k hk, q2 k hk, q1 k hk, g67]
    rw [sm_gI t15 (a := 50) (by decide) (by decide), sm_gI t15 (a := 51) (by decide) (by decide), sm_gI t15 (a := 55) (by decide) (by decide), g55, q 5 (by decide), q 6 (by decide), q 23 (by decide)]
    refine ⟨⟨len + 4 + 4 + 4 + 4 + 4, by omega, a5, p5⟩, ?_, M3, M4, M5⟩
    rw [b5, b4, b3, b2, b1, r5, r4, r3, r2, r1, g71]
    exact four_b (four_b (four_b (four_b (four_b M2 _ _) _ _) _ _) _ _) _ _
