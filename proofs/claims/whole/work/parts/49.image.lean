--deps:19.lay 21.facts 22.00.names 22.01.eq 22.02.eq 22.03.eq 22.04.eq 22.05.eq 22.06.eq 22.07.eq 22.08.eq 22.09.eq 22.10.eq 22.11.eq 22.12.eq 22.13.eq 22.14.eq 22.15.eq 22.16.eq 22.17.eq 22.18.eq 22.19.eq 22.20.eq 22.21.eq 22.22.eq 22.23.eq 23.num 24.town 25.evc 26.evm 27.law 28.says 29.inv 30.api1 31.copy 32.api2 33.api3 34.api4 35.api5 36.deeds 37.hours 38.mdeeds 39.mhours 40.hist 41.full 42.acts 43.acts2 44.played 45.undo 46.trial 47.sets 48.sets2
/-! THE IMAGE: kept, gone back to (the copies written by wip/gen/gen49.py) -/
set_option linter.unusedSectionVars false
/-- the borough b is as o was -/
def CPB (h h' : MH) (b o : Nat) : Prop := h'.1 = h.1 ∧ (∀ a, ¬ (b ≤ a ∧ a ≤ b + 16) → gI h' a = gI h a) ∧ (∀ a, ¬ a = b + 1 → ¬ a = b + 14 → gR h' a = gR h a) ∧ gR h' (b + 1) 9 = gR h (o + 1) 9 ∧ (∀ t, t < 4 → gR h' (b + 14) t = gR h (o + 14) t) ∧ (gI h' (b + 1) 0 = gI h (o + 1) 0 ∧ gI h' (b + 1) 5 = gI h (o + 1) 5 ∧ gI h' (b + 1) 6 = gI h (o + 1) 6 ∧ gI h' (b + 1) 8 = gI h (o + 1) 8) ∧ ((∀ p, p < 4 → gI h' (b + 2) p = gI h (o + 2) p) ∧ (∀ p, p < 4 → gI h' (b + 3) p = gI h (o + 3) p) ∧ (∀ p, p < 4 → gI h' (b + 4) p = gI h (o + 4) p) ∧ (∀ p, p < 9 → gI h' (b + 5) p = gI h (o + 5) p) ∧ (∀ p, p < 30 → gI h' (b + 6) p = gI h (o + 6) p)) ∧ (gI h' (b + 8) 1 = gI h (o + 8) 1 ∧ gI h' (b + 8) 2 = gI h (o + 8) 2 ∧ ∀ k, k < 1457 → gI h' (b + 9) k = gI h (o + 9) k) ∧ (gI h' (b + 10) 3 = gI h (o + 10) 3 ∧ (∀ k, k < 4 → gI h' (b + 11) k = gI h (o + 11) k) ∧ ∀ k, k < 4 → gI h' (b + 12) k = gI h (o + 12) k) ∧ (gI h' b 4 = gI h o 4 ∧ gI h' b 5 = gI h o 5 ∧ gI h' b 8 = gI h o 8) ∧ (∀ k, k < 8 → gI h' (b + 15) k = gI h (o + 15) k) ∧ ∀ k, k < 8 → gI h' (b + 16) k = gI h (o + 16) k
theorem c_stepsCb {h : MH} (L : lay h) (d : Nat) : ∃ h', F_X6_copyFromb (d + 1) h = some (.int 0, h') ∧ lay h' ∧ h'.1 = h.1 ∧ gR h' = gR h ∧ (∀ a, ¬ a = 34 → ¬ a = 35 → gI h' a = gI h a) ∧ gI h' 34 1 = gI h 17 1 ∧ gI h' 34 2 = gI h 17 2 ∧ ∀ k, k < 1457 → gI h' 35 k = gI h 18 k := by
  rw [S_X6_copyFromb L d, lt_def, lt_def, lt_def]
  refine ⟨_, rfl, layI (layI (lay_rI L (by decide)) (by decide)) (by decide), rfl, rfl, fun a h1 h2 => ?_, ?_, ?_, fun k hk => ?_⟩
  · rw [gI_sIo _ _ _ _ _ h1, gI_sIo _ _ _ _ _ h1, gI_rI' _ _ _ _ h2]
  · rw [gI_sIs, up_o _ _ (by decide), gI_sIs, up_s, gI_rI' _ _ _ _ (by decide)]
  · rw [gI_sIs, up_s, gI_sIo _ _ _ _ _ (by decide), gI_rI' _ _ _ _ (by decide)]
  · rw [gI_sIo _ _ _ _ _ (by decide), gI_sIo _ _ _ _ _ (by decide), gI_rIs, cpy_v _ _ hk]
theorem c_handsCb {h : MH} (L : lay h) (d : Nat) : ∃ h', F_X2_copyFromb (d + 1) h = some (.int 0, h') ∧ lay h' ∧ h'.1 = h.1 ∧ gR h' = gR h ∧ (∀ a, ¬ a = 36 → ¬ a = 37 → ¬ a = 38 → gI h' a = gI h a) ∧ gI h' 36 3 = gI h 19 3 ∧ (∀ k, k < 4 → gI h' 37 k = gI h 20 k) ∧ ∀ k, k < 4 → gI h' 38 k = gI h 21 k := by
  rw [S_X2_copyFromb L d, lt_def, lt_def, lt_def]
  refine ⟨_, rfl, layI (lay_rI (lay_rI L (by decide)) (by decide)) (by decide), rfl, rfl, fun a h1 h2 h3 => ?_, ?_, fun k hk => ?_, fun k hk => ?_⟩
  · rw [gI_sIo _ _ _ _ _ h1, gI_rI' _ _ _ _ h3, gI_rI' _ _ _ _ h2]
  · rw [gI_sIs, up_s, gI_rI' _ _ _ _ (by decide), gI_rI' _ _ _ _ (by decide)]
  · rw [gI_sIo _ _ _ _ _ (by decide), gI_rI' _ _ _ _ (by decide), gI_rIs, cpy_v _ _ hk]
  · rw [gI_sIo _ _ _ _ _ (by decide), gI_rIs, cpy_v _ _ hk, gI_rI' _ _ _ _ (by decide)]
theorem c_textsCb {h : MH} (L : lay h) (d : Nat) (hk : ∀ i, i < 4 → gR h 23 i = 0 ∨ kd h (gR h 23 i) = 9) : ∃ h', G_X0_copyFromb_17 d 0 h = some (.int 0, h') ∧ lay h' ∧ h'.1 = h.1 ∧ (∀ a, ¬ a = 40 → gR h' a = gR h a) ∧ (∀ t, t < 4 → gR h' 40 t = gR h 23 t) ∧ (∀ a, ¬ a = 26 → ¬ a = 41 → ¬ a = 42 → gI h' a = gI h a) ∧ (gI h' 26 4 = gI h 9 4 ∧ gI h' 26 5 = gI h 9 5 ∧ gI h' 26 8 = gI h 9 8) ∧ (∀ k, k < 8 → gI h' 41 k = gI h 24 k) ∧ ∀ k, k < 8 → gI h' 42 k = gI h 25 k := by
  have one : ∀ (k : MH) (i : Nat), lay k → i < 4 → k.1 = h.1 → gR k 23 = gR h 23 → G_X0_copyFromb_17 d (nI i) k = G_X0_copyFromb_17 d (nI (i + 1)) (sR k 40 i (gR h 23 i)) := by
    intro k i Lk hi ek er
    have ekd : ∀ a, kd k a = kd h a := fun a => by unfold kd; rw [ek]
    rw [S_X0_copyFromb_17 Lk d, if_pos ((nIl (by omega) (by omega)).mpr hi), ck_pos (ib_nI (by omega) (by omega)), ix_nI (by omega), er, ekd, ck_pos ⟨ib_nI (by omega) (by omega), hk i hi⟩, lt_def, nI_1]
  have ll : ∀ k, lay k → ∀ i v, lay (sR k 40 i v) := fun k Lk i v => layRA Lk (by decide)
  have l1 := ll h L 0 (gR h 23 0)
  have l2 := ll _ l1 1 (gR h 23 1)
  have l3 := ll _ l2 2 (gR h 23 2)
  have l4 := ll _ l3 3 (gR h 23 3)
  have r1 : ∀ (k : MH) (i v : Nat), gR (sR k 40 i v) 23 = gR k 23 := fun k i v => gR_sRo _ _ _ _ _ (by decide)
  have e4 : G_X0_copyFromb_17 d 0 h = G_X0_copyFromb_17 d (nI 4) (sR (sR (sR (sR h 40 0 (gR h 23 0)) 40 1 (gR h 23 1)) 40 2 (gR h 23 2)) 40 3 (gR h 23 3)) :=
    (one h 0 L (by omega) rfl rfl).trans ((one _ 1 l1 (by omega) rfl (r1 _ _ _)).trans ((one _ 2 l2 (by omega) rfl (by rw [r1, r1])).trans (one _ 3 l3 (by omega) rfl (by rw [r1, r1, r1]))))
  rw [e4, S_X0_copyFromb_17 l4 d, if_neg (by decide), lt_def, lt_def, lt_def, lt_def, lt_def]
  refine ⟨_, rfl, layI (lay_rI (lay_rI (layI (layI l4 (by decide)) (by decide)) (by decide)) (by decide)) (by decide), rfl, fun a ha => ?_, fun t ht => ?_, fun a h1 h2 h3 => ?_, ⟨?_, ?_, ?_⟩, fun k hk => ?_, fun k hk => ?_⟩
  · show gR (sR (sR (sR (sR h 40 0 (gR h 23 0)) 40 1 (gR h 23 1)) 40 2 (gR h 23 2)) 40 3 (gR h 23 3)) a = gR h a
    rw [gR_sRo _ _ _ _ _ ha, gR_sRo _ _ _ _ _ ha, gR_sRo _ _ _ _ _ ha, gR_sRo _ _ _ _ _ ha]
  · show gR (sR (sR (sR (sR h 40 0 (gR h 23 0)) 40 1 (gR h 23 1)) 40 2 (gR h 23 2)) 40 3 (gR h 23 3)) 40 t = gR h 23 t
    rw [gR_sRs, gR_sRs, gR_sRs, gR_sRs]
    match t, ht with
    | 0, _ => rw [up_o _ _ (by decide), up_o _ _ (by decide), up_o _ _ (by decide), up_s]
    | 1, _ => rw [up_o _ _ (by decide), up_o _ _ (by decide), up_s]
    | 2, _ => rw [up_o _ _ (by decide), up_s]
    | 3, _ => rw [up_s]
  · rw [gI_sIo _ _ _ _ _ h1, gI_rI' _ _ _ _ h3, gI_rI' _ _ _ _ h2, gI_sIo _ _ _ _ _ h1, gI_sIo _ _ _ _ _ h1]
    rfl
  · rw [gI_sIs, up_o _ _ (by decide), gI_rI' _ _ _ _ (by decide), gI_rI' _ _ _ _ (by decide), gI_sIs, up_o _ _ (by decide), gI_sIs, up_s]
    rfl
  · rw [gI_sIs, up_o _ _ (by decide), gI_rI' _ _ _ _ (by decide), gI_rI' _ _ _ _ (by decide), gI_sIs, up_s, gI_sIo _ _ _ _ _ (by decide)]
    rfl
  · rw [gI_sIs, up_s, gI_rI' _ _ _ _ (by decide), gI_rI' _ _ _ _ (by decide), gI_sIo _ _ _ _ _ (by decide), gI_sIo _ _ _ _ _ (by decide)]
    rfl
  · rw [gI_sIo _ _ _ _ _ (by decide), gI_rI' _ _ _ _ (by decide), gI_rIs, cpy_v _ _ hk, gI_sIo _ _ _ _ _ (by decide), gI_sIo _ _ _ _ _ (by decide)]
    rfl
  · rw [gI_sIo _ _ _ _ _ (by decide), gI_rIs, cpy_v _ _ hk, gI_rI' _ _ _ _ (by decide), gI_sIo _ _ _ _ _ (by decide), gI_sIo _ _ _ _ _ (by decide)]
    rfl
theorem c_copyBb {h : MH} (L : lay h) (d : Nat) (hk : ∀ i, i < 4 → gR h 23 i = 0 ∨ kd h (gR h 23 i) = 9) : ∃ h', F_X0_copyFromb (d + 2) h = some (.int 0, h') ∧ lay h' ∧ CPB h h' 26 9 := by
  obtain ⟨h1, e1, c1, ⟨c2, c3, c4⟩, c5, ⟨c6, c7, c8, c9⟩, c10, c11, c12, c13, c14⟩ := c_copyFrom L d (q := 27) (o := 10) tAt27 tAt10 (by decide)
  have L1 : lay h1 := lay_F e1 L rfl
  obtain ⟨h2, e2, L2, s1, s2, s3, s4, s5, s6⟩ := c_stepsCb L1 d
  obtain ⟨h3, e3, L3, u1, u2, u3, u4, u5, u6⟩ := c_handsCb L2 d
  have r3 : ∀ a, gR h3 a = gR h1 a := fun a => by rw [u2, s2]
  have k3 : ∀ a, kd h3 a = kd h a := fun a => by unfold kd; rw [u1, s1, c1]
  obtain ⟨h4, e4, L4, w1, w2, w3, w4, ⟨w5, w6, w7⟩, w8, w9⟩ := c_textsCb L3 (d + 1) (fun i hi => by rw [r3, k3, c2 _ (by decide)]; exact hk i hi)
  refine ⟨h4, ?_, L4, by rw [w1, u1, s1, c1], fun a ha => ?_, fun a ha hb => ?_, ?_, fun t ht => ?_, ⟨?_, ?_, ?_, ?_⟩, ⟨fun p hp => ?_, fun p hp => ?_, fun p hp => ?_, fun p hp => ?_, fun p hp => ?_⟩, ⟨?_, ?_, fun k hk => ?_⟩, ⟨?_, fun k hk => ?_, fun k hk => ?_⟩, ⟨?_, ?_, ?_⟩, fun k hk => ?_, fun k hk => ?_⟩
  · rw [S_X0_copyFromb L (d + 1), e1, cV_some, e2, cV_some, e3, cV_some, e4]
  · rw [w4 a (by omega) (by omega) (by omega), u3 a (by omega) (by omega) (by omega), s3 a (by omega) (by omega), c5 a (by omega) (by omega) (by omega) (by omega) (by omega) (by omega)]
  · rw [w2 a hb, r3, c2 a ha]
  · show gR h4 27 9 = gR h 10 9
    rw [w2 _ (by decide), r3, c4]
  · show gR h4 40 t = gR h 23 t
    rw [w3 t ht, r3, c2 _ (by decide)]
  · show gI h4 27 0 = _
    rw [w4 _ (by decide) (by decide) (by decide), u3 _ (by decide) (by decide) (by decide), s3 _ (by decide) (by decide)]; exact c6
  · show gI h4 27 5 = _
    rw [w4 _ (by decide) (by decide) (by decide), u3 _ (by decide) (by decide) (by decide), s3 _ (by decide) (by decide)]; exact c7
  · show gI h4 27 6 = _
    rw [w4 _ (by decide) (by decide) (by decide), u3 _ (by decide) (by decide) (by decide), s3 _ (by decide) (by decide)]; exact c8
  · show gI h4 27 8 = _
    rw [w4 _ (by decide) (by decide) (by decide), u3 _ (by decide) (by decide) (by decide), s3 _ (by decide) (by decide)]; exact c9
  · rw [w4 _ (by decide) (by decide) (by decide), u3 _ (by decide) (by decide) (by decide), s3 _ (by decide) (by decide)]; exact c10 p hp
  · rw [w4 _ (by decide) (by decide) (by decide), u3 _ (by decide) (by decide) (by decide), s3 _ (by decide) (by decide)]; exact c11 p hp
  · rw [w4 _ (by decide) (by decide) (by decide), u3 _ (by decide) (by decide) (by decide), s3 _ (by decide) (by decide)]; exact c12 p hp
  · rw [w4 _ (by decide) (by decide) (by decide), u3 _ (by decide) (by decide) (by decide), s3 _ (by decide) (by decide)]; exact c13 p hp
  · rw [w4 _ (by decide) (by decide) (by decide), u3 _ (by decide) (by decide) (by decide), s3 _ (by decide) (by decide)]; exact c14 p hp
  · show gI h4 34 1 = gI h 17 1
    rw [w4 _ (by decide) (by decide) (by decide), u3 _ (by decide) (by decide) (by decide), s4, c5 _ (by decide) (by decide) (by decide) (by decide) (by decide) (by decide)]
  · show gI h4 34 2 = gI h 17 2
    rw [w4 _ (by decide) (by decide) (by decide), u3 _ (by decide) (by decide) (by decide), s5, c5 _ (by decide) (by decide) (by decide) (by decide) (by decide) (by decide)]
  · show gI h4 35 k = gI h 18 k
    rw [w4 _ (by decide) (by decide) (by decide), u3 _ (by decide) (by decide) (by decide), s6 k hk, c5 _ (by decide) (by decide) (by decide) (by decide) (by decide) (by decide)]
  · show gI h4 36 3 = gI h 19 3
    rw [w4 _ (by decide) (by decide) (by decide), u4, s3 _ (by decide) (by decide), c5 _ (by decide) (by decide) (by decide) (by decide) (by decide) (by decide)]
  · show gI h4 37 k = gI h 20 k
    rw [w4 _ (by decide) (by decide) (by decide), u5 k hk, s3 _ (by decide) (by decide), c5 _ (by decide) (by decide) (by decide) (by decide) (by decide) (by decide)]
  · show gI h4 38 k = gI h 21 k
    rw [w4 _ (by decide) (by decide) (by decide), u6 k hk, s3 _ (by decide) (by decide), c5 _ (by decide) (by decide) (by decide) (by decide) (by decide) (by decide)]
  · rw [w5, u3 _ (by decide) (by decide) (by decide), s3 _ (by decide) (by decide), c5 _ (by decide) (by decide) (by decide) (by decide) (by decide) (by decide)]
  · rw [w6, u3 _ (by decide) (by decide) (by decide), s3 _ (by decide) (by decide), c5 _ (by decide) (by decide) (by decide) (by decide) (by decide) (by decide)]
  · rw [w7, u3 _ (by decide) (by decide) (by decide), s3 _ (by decide) (by decide), c5 _ (by decide) (by decide) (by decide) (by decide) (by decide) (by decide)]
  · show gI h4 41 k = gI h 24 k
    rw [w8 k hk, u3 _ (by decide) (by decide) (by decide), s3 _ (by decide) (by decide), c5 _ (by decide) (by decide) (by decide) (by decide) (by decide) (by decide)]
  · show gI h4 42 k = gI h 25 k
    rw [w9 k hk, u3 _ (by decide) (by decide) (by decide), s3 _ (by decide) (by decide), c5 _ (by decide) (by decide) (by decide) (by decide) (by decide) (by decide)]
theorem c_stepsCa {h : MH} (L : lay h) (d : Nat) : ∃ h', F_X6_copyFroma (d + 1) h = some (.int 0, h') ∧ lay h' ∧ h'.1 = h.1 ∧ gR h' = gR h ∧ (∀ a, ¬ a = 17 → ¬ a = 18 → gI h' a = gI h a) ∧ gI h' 17 1 = gI h 34 1 ∧ gI h' 17 2 = gI h 34 2 ∧ ∀ k, k < 1457 → gI h' 18 k = gI h 35 k := by
  rw [S_X6_copyFroma L d, lt_def, lt_def, lt_def]
  refine ⟨_, rfl, layI (layI (lay_rI L (by decide)) (by decide)) (by decide), rfl, rfl, fun a h1 h2 => ?_, ?_, ?_, fun k hk => ?_⟩
  · rw [gI_sIo _ _ _ _ _ h1, gI_sIo _ _ _ _ _ h1, gI_rI' _ _ _ _ h2]
  · rw [gI_sIs, up_o _ _ (by decide), gI_sIs, up_s, gI_rI' _ _ _ _ (by decide)]
  · rw [gI_sIs, up_s, gI_sIo _ _ _ _ _ (by decide), gI_rI' _ _ _ _ (by decide)]
  · rw [gI_sIo _ _ _ _ _ (by decide), gI_sIo _ _ _ _ _ (by decide), gI_rIs, cpy_v _ _ hk]
theorem c_handsCa {h : MH} (L : lay h) (d : Nat) : ∃ h', F_X2_copyFroma (d + 1) h = some (.int 0, h') ∧ lay h' ∧ h'.1 = h.1 ∧ gR h' = gR h ∧ (∀ a, ¬ a = 19 → ¬ a = 20 → ¬ a = 21 → gI h' a = gI h a) ∧ gI h' 19 3 = gI h 36 3 ∧ (∀ k, k < 4 → gI h' 20 k = gI h 37 k) ∧ ∀ k, k < 4 → gI h' 21 k = gI h 38 k := by
  rw [S_X2_copyFroma L d, lt_def, lt_def, lt_def]
  refine ⟨_, rfl, layI (lay_rI (lay_rI L (by decide)) (by decide)) (by decide), rfl, rfl, fun a h1 h2 h3 => ?_, ?_, fun k hk => ?_, fun k hk => ?_⟩
  · rw [gI_sIo _ _ _ _ _ h1, gI_rI' _ _ _ _ h3, gI_rI' _ _ _ _ h2]
  · rw [gI_sIs, up_s, gI_rI' _ _ _ _ (by decide), gI_rI' _ _ _ _ (by decide)]
  · rw [gI_sIo _ _ _ _ _ (by decide), gI_rI' _ _ _ _ (by decide), gI_rIs, cpy_v _ _ hk]
  · rw [gI_sIo _ _ _ _ _ (by decide), gI_rIs, cpy_v _ _ hk, gI_rI' _ _ _ _ (by decide)]
theorem c_textsCa {h : MH} (L : lay h) (d : Nat) (hk : ∀ i, i < 4 → gR h 40 i = 0 ∨ kd h (gR h 40 i) = 9) : ∃ h', G_X0_copyFroma_17 d 0 h = some (.int 0, h') ∧ lay h' ∧ h'.1 = h.1 ∧ (∀ a, ¬ a = 23 → gR h' a = gR h a) ∧ (∀ t, t < 4 → gR h' 23 t = gR h 40 t) ∧ (∀ a, ¬ a = 9 → ¬ a = 24 → ¬ a = 25 → gI h' a = gI h a) ∧ (gI h' 9 4 = gI h 26 4 ∧ gI h' 9 5 = gI h 26 5 ∧ gI h' 9 8 = gI h 26 8) ∧ (∀ k, k < 8 → gI h' 24 k = gI h 41 k) ∧ ∀ k, k < 8 → gI h' 25 k = gI h 42 k := by
  have one : ∀ (k : MH) (i : Nat), lay k → i < 4 → k.1 = h.1 → gR k 40 = gR h 40 → G_X0_copyFroma_17 d (nI i) k = G_X0_copyFroma_17 d (nI (i + 1)) (sR k 23 i (gR h 40 i)) := by
    intro k i Lk hi ek er
    have ekd : ∀ a, kd k a = kd h a := fun a => by unfold kd; rw [ek]
    rw [S_X0_copyFroma_17 Lk d, if_pos ((nIl (by omega) (by omega)).mpr hi), ck_pos (ib_nI (by omega) (by omega)), ix_nI (by omega), er, ekd, ck_pos ⟨ib_nI (by omega) (by omega), hk i hi⟩, lt_def, nI_1]
  have ll : ∀ k, lay k → ∀ i v, lay (sR k 23 i v) := fun k Lk i v => layRA Lk (by decide)
  have l1 := ll h L 0 (gR h 40 0)
  have l2 := ll _ l1 1 (gR h 40 1)
  have l3 := ll _ l2 2 (gR h 40 2)
  have l4 := ll _ l3 3 (gR h 40 3)
  have r1 : ∀ (k : MH) (i v : Nat), gR (sR k 23 i v) 40 = gR k 40 := fun k i v => gR_sRo _ _ _ _ _ (by decide)
  have e4 : G_X0_copyFroma_17 d 0 h = G_X0_copyFroma_17 d (nI 4) (sR (sR (sR (sR h 23 0 (gR h 40 0)) 23 1 (gR h 40 1)) 23 2 (gR h 40 2)) 23 3 (gR h 40 3)) :=
    (one h 0 L (by omega) rfl rfl).trans ((one _ 1 l1 (by omega) rfl (r1 _ _ _)).trans ((one _ 2 l2 (by omega) rfl (by rw [r1, r1])).trans (one _ 3 l3 (by omega) rfl (by rw [r1, r1, r1]))))
  rw [e4, S_X0_copyFroma_17 l4 d, if_neg (by decide), lt_def, lt_def, lt_def, lt_def, lt_def]
  refine ⟨_, rfl, layI (lay_rI (lay_rI (layI (layI l4 (by decide)) (by decide)) (by decide)) (by decide)) (by decide), rfl, fun a ha => ?_, fun t ht => ?_, fun a h1 h2 h3 => ?_, ⟨?_, ?_, ?_⟩, fun k hk => ?_, fun k hk => ?_⟩
  · show gR (sR (sR (sR (sR h 23 0 (gR h 40 0)) 23 1 (gR h 40 1)) 23 2 (gR h 40 2)) 23 3 (gR h 40 3)) a = gR h a
    rw [gR_sRo _ _ _ _ _ ha, gR_sRo _ _ _ _ _ ha, gR_sRo _ _ _ _ _ ha, gR_sRo _ _ _ _ _ ha]
  · show gR (sR (sR (sR (sR h 23 0 (gR h 40 0)) 23 1 (gR h 40 1)) 23 2 (gR h 40 2)) 23 3 (gR h 40 3)) 23 t = gR h 40 t
    rw [gR_sRs, gR_sRs, gR_sRs, gR_sRs]
    match t, ht with
    | 0, _ => rw [up_o _ _ (by decide), up_o _ _ (by decide), up_o _ _ (by decide), up_s]
    | 1, _ => rw [up_o _ _ (by decide), up_o _ _ (by decide), up_s]
    | 2, _ => rw [up_o _ _ (by decide), up_s]
    | 3, _ => rw [up_s]
  · rw [gI_sIo _ _ _ _ _ h1, gI_rI' _ _ _ _ h3, gI_rI' _ _ _ _ h2, gI_sIo _ _ _ _ _ h1, gI_sIo _ _ _ _ _ h1]
    rfl
  · rw [gI_sIs, up_o _ _ (by decide), gI_rI' _ _ _ _ (by decide), gI_rI' _ _ _ _ (by decide), gI_sIs, up_o _ _ (by decide), gI_sIs, up_s]
    rfl
  · rw [gI_sIs, up_o _ _ (by decide), gI_rI' _ _ _ _ (by decide), gI_rI' _ _ _ _ (by decide), gI_sIs, up_s, gI_sIo _ _ _ _ _ (by decide)]
    rfl
  · rw [gI_sIs, up_s, gI_rI' _ _ _ _ (by decide), gI_rI' _ _ _ _ (by decide), gI_sIo _ _ _ _ _ (by decide), gI_sIo _ _ _ _ _ (by decide)]
    rfl
  · rw [gI_sIo _ _ _ _ _ (by decide), gI_rI' _ _ _ _ (by decide), gI_rIs, cpy_v _ _ hk, gI_sIo _ _ _ _ _ (by decide), gI_sIo _ _ _ _ _ (by decide)]
    rfl
  · rw [gI_sIo _ _ _ _ _ (by decide), gI_rIs, cpy_v _ _ hk, gI_rI' _ _ _ _ (by decide), gI_sIo _ _ _ _ _ (by decide), gI_sIo _ _ _ _ _ (by decide)]
    rfl
theorem c_copyBa {h : MH} (L : lay h) (d : Nat) (hk : ∀ i, i < 4 → gR h 40 i = 0 ∨ kd h (gR h 40 i) = 9) : ∃ h', F_X0_copyFroma (d + 2) h = some (.int 0, h') ∧ lay h' ∧ CPB h h' 9 26 := by
  obtain ⟨h1, e1, c1, ⟨c2, c3, c4⟩, c5, ⟨c6, c7, c8, c9⟩, c10, c11, c12, c13, c14⟩ := c_copyFrom L d (q := 10) (o := 27) tAt10 tAt27 (by decide)
  have L1 : lay h1 := lay_F e1 L rfl
  obtain ⟨h2, e2, L2, s1, s2, s3, s4, s5, s6⟩ := c_stepsCa L1 d
  obtain ⟨h3, e3, L3, u1, u2, u3, u4, u5, u6⟩ := c_handsCa L2 d
  have r3 : ∀ a, gR h3 a = gR h1 a := fun a => by rw [u2, s2]
  have k3 : ∀ a, kd h3 a = kd h a := fun a => by unfold kd; rw [u1, s1, c1]
  obtain ⟨h4, e4, L4, w1, w2, w3, w4, ⟨w5, w6, w7⟩, w8, w9⟩ := c_textsCa L3 (d + 1) (fun i hi => by rw [r3, k3, c2 _ (by decide)]; exact hk i hi)
  refine ⟨h4, ?_, L4, by rw [w1, u1, s1, c1], fun a ha => ?_, fun a ha hb => ?_, ?_, fun t ht => ?_, ⟨?_, ?_, ?_, ?_⟩, ⟨fun p hp => ?_, fun p hp => ?_, fun p hp => ?_, fun p hp => ?_, fun p hp => ?_⟩, ⟨?_, ?_, fun k hk => ?_⟩, ⟨?_, fun k hk => ?_, fun k hk => ?_⟩, ⟨?_, ?_, ?_⟩, fun k hk => ?_, fun k hk => ?_⟩
  · rw [S_X0_copyFroma L (d + 1), e1, cV_some, e2, cV_some, e3, cV_some, e4]
  · rw [w4 a (by omega) (by omega) (by omega), u3 a (by omega) (by omega) (by omega), s3 a (by omega) (by omega), c5 a (by omega) (by omega) (by omega) (by omega) (by omega) (by omega)]
  · rw [w2 a hb, r3, c2 a ha]
  · show gR h4 10 9 = gR h 27 9
    rw [w2 _ (by decide), r3, c4]
  · show gR h4 23 t = gR h 40 t
    rw [w3 t ht, r3, c2 _ (by decide)]
  · show gI h4 10 0 = _
    rw [w4 _ (by decide) (by decide) (by decide), u3 _ (by decide) (by decide) (by decide), s3 _ (by decide) (by decide)]; exact c6
  · show gI h4 10 5 = _
    rw [w4 _ (by decide) (by decide) (by decide), u3 _ (by decide) (by decide) (by decide), s3 _ (by decide) (by decide)]; exact c7
  · show gI h4 10 6 = _
    rw [w4 _ (by decide) (by decide) (by decide), u3 _ (by decide) (by decide) (by decide), s3 _ (by decide) (by decide)]; exact c8
  · show gI h4 10 8 = _
    rw [w4 _ (by decide) (by decide) (by decide), u3 _ (by decide) (by decide) (by decide), s3 _ (by decide) (by decide)]; exact c9
  · rw [w4 _ (by decide) (by decide) (by decide), u3 _ (by decide) (by decide) (by decide), s3 _ (by decide) (by decide)]; exact c10 p hp
  · rw [w4 _ (by decide) (by decide) (by decide), u3 _ (by decide) (by decide) (by decide), s3 _ (by decide) (by decide)]; exact c11 p hp
  · rw [w4 _ (by decide) (by decide) (by decide), u3 _ (by decide) (by decide) (by decide), s3 _ (by decide) (by decide)]; exact c12 p hp
  · rw [w4 _ (by decide) (by decide) (by decide), u3 _ (by decide) (by decide) (by decide), s3 _ (by decide) (by decide)]; exact c13 p hp
  · rw [w4 _ (by decide) (by decide) (by decide), u3 _ (by decide) (by decide) (by decide), s3 _ (by decide) (by decide)]; exact c14 p hp
  · show gI h4 17 1 = gI h 34 1
    rw [w4 _ (by decide) (by decide) (by decide), u3 _ (by decide) (by decide) (by decide), s4, c5 _ (by decide) (by decide) (by decide) (by decide) (by decide) (by decide)]
  · show gI h4 17 2 = gI h 34 2
    rw [w4 _ (by decide) (by decide) (by decide), u3 _ (by decide) (by decide) (by decide), s5, c5 _ (by decide) (by decide) (by decide) (by decide) (by decide) (by decide)]
  · show gI h4 18 k = gI h 35 k
    rw [w4 _ (by decide) (by decide) (by decide), u3 _ (by decide) (by decide) (by decide), s6 k hk, c5 _ (by decide) (by decide) (by decide) (by decide) (by decide) (by decide)]
  · show gI h4 19 3 = gI h 36 3
    rw [w4 _ (by decide) (by decide) (by decide), u4, s3 _ (by decide) (by decide), c5 _ (by decide) (by decide) (by decide) (by decide) (by decide) (by decide)]
  · show gI h4 20 k = gI h 37 k
    rw [w4 _ (by decide) (by decide) (by decide), u5 k hk, s3 _ (by decide) (by decide), c5 _ (by decide) (by decide) (by decide) (by decide) (by decide) (by decide)]
  · show gI h4 21 k = gI h 38 k
    rw [w4 _ (by decide) (by decide) (by decide), u6 k hk, s3 _ (by decide) (by decide), c5 _ (by decide) (by decide) (by decide) (by decide) (by decide) (by decide)]
  · rw [w5, u3 _ (by decide) (by decide) (by decide), s3 _ (by decide) (by decide), c5 _ (by decide) (by decide) (by decide) (by decide) (by decide) (by decide)]
  · rw [w6, u3 _ (by decide) (by decide) (by decide), s3 _ (by decide) (by decide), c5 _ (by decide) (by decide) (by decide) (by decide) (by decide) (by decide)]
  · rw [w7, u3 _ (by decide) (by decide) (by decide), s3 _ (by decide) (by decide), c5 _ (by decide) (by decide) (by decide) (by decide) (by decide) (by decide)]
  · show gI h4 24 k = gI h 41 k
    rw [w8 k hk, u3 _ (by decide) (by decide) (by decide), s3 _ (by decide) (by decide), c5 _ (by decide) (by decide) (by decide) (by decide) (by decide) (by decide)]
  · show gI h4 25 k = gI h 42 k
    rw [w9 k hk, u3 _ (by decide) (by decide) (by decide), s3 _ (by decide) (by decide), c5 _ (by decide) (by decide) (by decide) (by decide) (by decide) (by decide)]
theorem BOR_copy {h h' h2 : MH} {b o r r' n : Nat} {W P SN : Nat → Nat} {H X wr tn : Nat} (C : CPB h h' b o) (B : BOR h o r n W P SN H X wr tn) (e2 : ∀ a, b ≤ a → a ≤ b + 16 → gI h2 a = gI h' a) (r2 : ∀ a, gR h2 a = gR h' a) (er : ∀ k, k < 1498 → gI h2 r' k = gI h r k) : BOR h2 b r' n W P SN H X wr tn := by
  obtain ⟨-, -, -, c1, c2, ⟨c3, c4, c5, c6⟩, ⟨c7, c8, c9, c10, c11⟩, ⟨c12, c13, c14⟩, ⟨c15, c16, c17⟩, ⟨c18, c19, c20⟩, c21, c22⟩ := C
  obtain ⟨⟨p1, p2, p3, p4, p5, p6⟩, ⟨⟨q1, q2, q3⟩, ⟨q4, q5, q6⟩, ⟨q7, q8, q9⟩⟩, q10, ⟨q11, q12⟩, ⟨hn, HW, HG, y1, y2, y3, y4⟩, ⟨t1, t2, t3, t4⟩, ⟨sc, s1, s2, s3, s4⟩, ⟨fst, cnt, pk, r8⟩⟩ := B
  unfold BOR
  rw [e2 b (by omega) (by omega), e2 (b + 1) (by omega) (by omega), e2 (b + 2) (by omega) (by omega), e2 (b + 3) (by omega) (by omega), e2 (b + 4) (by omega) (by omega), e2 (b + 5) (by omega) (by omega), e2 (b + 6) (by omega) (by omega), e2 (b + 8) (by omega) (by omega), e2 (b + 9) (by omega) (by omega), e2 (b + 10) (by omega) (by omega), e2 (b + 11) (by omega) (by omega), e2 (b + 12) (by omega) (by omega), e2 (b + 15) (by omega) (by omega), e2 (b + 16) (by omega) (by omega), r2 (b + 1), r2 (b + 14), c1]
  refine ⟨⟨p1, c3.trans p2, by rw [er _ (by omega)]; exact p3, fun p hp => by rw [c7 p hp, er _ (by omega)]; exact p4 p hp, fun p hp => by rw [c8 p hp, er _ (by omega)]; exact p5 p hp, fun c hc => by rw [c10 c hc, er _ (by omega)]; exact p6 c hc⟩, ⟨⟨c4.trans q1, by rw [er _ (by omega)]; exact q2, q3⟩, ⟨c5.trans q4, by rw [er _ (by omega)]; exact q5, q6⟩, ⟨c6.trans q7, by rw [er _ (by omega)]; exact q8, q9⟩⟩, fun k hk => by rw [c11 k hk, er _ (by omega)]; exact q10 k hk, ⟨fun p hp => by rw [c9 p (by omega), er _ (by omega)]; exact q11 p hp, fun p h1 h2 => by rw [er _ (by omega)]; exact q12 p h1 h2⟩, ⟨hn, HW, HG, y1, c15.trans y2, by rw [er _ (by omega)]; exact y3, fun k hk => by rw [c16 k (by omega), c17 k (by omega), er _ (by omega), er _ (by omega)]; exact y4 k hk⟩, ⟨t1, c18.trans t2, by rw [er _ (by omega)]; exact t3, ?_⟩, ⟨sc, s1, c20.trans s2, by rw [er _ (by omega)]; exact s3, fun k hk => by rw [c21 k (by omega), c22 k (by omega), er _ (by omega), er _ (by omega)]; exact s4 k hk⟩, fst, cnt, pk, ?_⟩
  · rw [c19, er _ (by omega)]
    rcases t4 with ⟨a1, a2, a3⟩ | ⟨t, a1, a2, a3, a4⟩
    · exact Or.inl ⟨a1, a2, a3⟩
    · exact Or.inr ⟨t, a1, a2, a3, by rw [c2 t (by omega)]; exact a4⟩
  · obtain ⟨⟨h1, h2, h3, h4, h5⟩, h6, h7, h8, h9, h10⟩ := r8
    have hm : ∀ k, (fst + k) % 31 < 31 := fun k => Nat.mod_lt _ (by decide)
    refine ⟨⟨h1, h2, c12.trans h3, c13.trans h4, by rw [er _ (by omega)]; exact h5⟩, fun k hk j hj => by rw [c14 _ (by have := hm k; omega), er _ (by omega)]; exact h6 k hk j hj, fun k hk => ?_, fun k hk p p1' p2' => ?_, fun k hk p p1' p2' => ?_, fun p hp => by rw [er _ (by omega)]; exact h10 p hp⟩
    · obtain ⟨z1, z2, z3⟩ := h7 k hk
      exact ⟨by rw [er _ (by omega)]; exact z1, z2, stepOK_a (fun j _ _ => er _ (by omega)) z3⟩
    · have := (h7 (k + 1) hk).2.1
      rw [er _ (by omega), er _ (by omega)]; exact h8 k hk p p1' p2'
    · rw [er _ (by omega), er _ (by omega)]; exact h9 k hk p p1' p2'
def cpR (f g : Nat → Int32) (i : Nat) : Nat → Int32 := fun k => if k < i then f k else g k
theorem cpR_0 (f g : Nat → Int32) : cpR f g 0 = g := by
  funext k
  unfold cpR
  rw [if_neg (by omega)]
theorem cpR_s (f g : Nat → Int32) (i : Nat) : va_up (cpR f g i) i (f i) = cpR f g (i + 1) := by
  funext k
  by_cases e : k = i
  · subst e
    rw [up_s]
    unfold cpR
    rw [if_pos (by omega)]
  · rw [up_o _ _ e]
    unfold cpR
    by_cases c : k < i
    · rw [if_pos c, if_pos (by omega)]
    · rw [if_neg c, if_neg (by omega)]
theorem m_copy {h : MH} (L : lay h) (d : Nat) {x y : Nat} (hx : kd h x = 20 ∧ ln h x = 1498) (hy : kd h y = 20 ∧ ln h y = 1498) (hxy : ¬ x = y) (ny : ¬ y = 2 ∧ ¬ y = 3 ∧ ¬ y = 4 ∧ ¬ y = 5 ∧ ¬ y = 6 ∧ ¬ y = 7) : F_X11_copy (d + 1) x y h = some (.int 0, rI h y (cpR (gI h x) (gI h y) 1498)) := by
  rw [S_X11_copy L d]
  have l1 := loop_all (n := 1498) (F := fun i => G_X11_copy_2 d x y (nI i) (rI h y (cpR (gI h x) (gI h y) i))) (fun i hi => by
    show G_X11_copy_2 _ _ _ _ _ = _
    have k1 : ∀ a, kd (rI h y (cpR (gI h x) (gI h y) i)) a = kd h a := fun a => rfl
    have k2 : ∀ a, ln (rI h y (cpR (gI h x) (gI h y) i)) a = ln h a := fun a => rfl
    rw [S_X11_copy_2 (lay_rI L ny) d, if_pos ((nIl (by omega) (by omega)).mpr hi), k1, k2, hx.1, hx.2, ck_pos ⟨Or.inl rfl, ib_nI (by omega) (by omega)⟩, k1, k2, hy.1, hy.2, ck_pos ⟨rfl, ib_nI (by omega) (by omega)⟩, lt_def, ix_nI (by omega), gI_rI' _ _ _ _ hxy, sI_rI, cpR_s, nI_1])
  rw [cpR_0, rI_self] at l1
  refine (show G_X11_copy_2 d x y 0 h = _ from l1).trans ?_
  rw [S_X11_copy_2 (lay_rI L ny) d, if_neg (by decide)]
theorem A_image {c : Nat} {h : MH} (I : INV c h) (d : Nat) : AGI c (F_X10_image (d + 3)) (F_X11_image (d + 3)) h := by
  have L := I.1
  obtain ⟨_, ⟨n, W, P, SN, H, X, wr, tn, N, K⟩, M, R⟩ := id I
  obtain ⟨n', W', P', SN', H', X', wr', tk, B', k1, k2, k3⟩ := K
  obtain ⟨h1, e1, L1, C⟩ := c_copyBb L d (fun i hi => (k3 i hi).1)
  have g10 : gI h1 10 = gI h 10 := C.2.1 10 (by omega)
  have g68 : gI h1 68 = gI h 68 := C.2.1 68 (by omega)
  obtain ⟨⟨u1, u2, u3⟩, -⟩ := N.1.2.1
  have eM := m_copy L1 (d + 1) (x := 68) (y := 69) ⟨k_68 L1, n_68 L1⟩ ⟨k_69 L1, n_69 L1⟩ (by decide) (by decide)
  refine ⟨nI H, h1, rI h1 69 (cpR (gI h1 68) (gI h1 69) 1498), ?_, ?_, ?_⟩
  · rw [S_X10_image L (d + 2), e1, cV_some, g10]; exact congrArg (fun v => some (Value.int v, h1)) u1
  · rw [S_X11_image L1 (d + 2), eM, cV_some, gI_rI' _ _ _ _ (by decide), g68, u2]
  have L2 : lay (rI h1 69 (cpR (gI h1 68) (gI h1 69) 1498)) := lay_rI L1 (by decide)
  have e69 : gI (rI h1 69 (cpR (gI h1 68) (gI h1 69) 1498)) 69 = cpR (gI h1 68) (gI h1 69) 1498 := gI_rIs _ _ _
  have go : ∀ a, ¬ (26 ≤ a ∧ a ≤ 42) → ¬ a = 69 → gI (rI h1 69 (cpR (gI h1 68) (gI h1 69) 1498)) a = gI h a := fun a h1' h2 => by rw [gI_rI' _ _ _ _ h2]; exact C.2.1 a h1'
  have gr : ∀ a, ¬ a = 27 → ¬ a = 40 → gR (rI h1 69 (cpR (gI h1 68) (gI h1 69) 1498)) a = gR h a := fun a h1' h2 => C.2.2.1 a h1' h2
  have s : sm [26, 27, 28, 29, 30, 31, 32, 33, 34, 35, 36, 37, 38, 39, 40, 41, 42, 69] h (rI h1 69 (cpR (gI h1 68) (gI h1 69) 1498)) := by
    refine ⟨C.1, fun a ha => gr a ?_ ?_, fun a ha _ => go a ?_ ?_⟩
    · rintro rfl; rcases ha with ha | ha
      · exact ha (by decide)
      · omega
    · rintro rfl; rcases ha with ha | ha
      · exact ha (by decide)
      · omega
    · rintro ⟨x1, x2⟩
      rcases ha with ha | ha
      · apply ha
        simp only [List.mem_cons, List.not_mem_nil, or_false]
        omega
      · omega
    · rintro rfl; rcases ha with ha | ha
      · exact ha (by decide)
      · omega
  refine ⟨L2, ⟨n, W, P, SN, H, X, wr, tn, ⟨BOR_eq (fun j hj => ?_) (go 68 (by omega) (by omega)) (gr _ (by omega) (by omega)) (gr _ (by omega) (by omega)) N.1, ?_⟩, n, W, P, SN, H, X, wr, tn, BOR_copy C N.1 (fun a a1 a2 => gI_rI' _ _ _ _ (by omega)) (fun a => rfl) (fun k hk => ?_), Nat.le_refl _, fun t ht => ?_, fun i hi => ?_⟩, MISC_z s (by decide) M, ROOM_sm s R⟩
  · have : j ≤ 16 := by
      revert j
      decide
    exact go _ (by omega) (by omega)
  · rw [gr 23 (by omega) (by omega)]
    exact fun t ht => txtR_sm s (by decide) (N.2 t ht)
  · rw [e69]
    unfold cpR
    rw [if_pos hk, g68]
  · rw [gr 23 (by omega) (by omega)]
    exact C.2.2.2.2.1 t (by have := N.1.2.2.2.2.2.1.1; omega)
  · rw [gr 23 (by omega) (by omega), sm_kd s, sm_kd s, show gR (rI h1 69 (cpR (gI h1 68) (gI h1 69) 1498)) 40 i = gR h 23 i from C.2.2.2.2.1 i hi]
    exact ⟨(k3 i hi).1, (k3 i hi).1⟩
theorem A_back {c : Nat} {h : MH} (I : INV c h) (d : Nat) : AGI c (F_X10_back (d + 3)) (F_X11_back (d + 3)) h := by
  have L := I.1
  obtain ⟨_, ⟨n, W, P, SN, H, X, wr, tn, N, K⟩, M, R⟩ := id I
  obtain ⟨n', W', P', SN', H', X', wr', tk, B', k1, k2, k3⟩ := K
  obtain ⟨h1, e1, L1, C⟩ := c_copyBa L d (fun i hi => (k3 i hi).2)
  have g69 : gI h1 69 = gI h 69 := C.2.1 69 (by omega)
  obtain ⟨⟨u1, u2, u3⟩, -⟩ := B'.2.1
  have eM := m_copy L1 (d + 1) (x := 69) (y := 68) ⟨k_69 L1, n_69 L1⟩ ⟨k_68 L1, n_68 L1⟩ (by decide) (by decide)
  have e10 : gI h1 10 5 = nI H' := C.2.2.2.2.2.1.2.1.trans u1
  have e6 : cpR (gI h1 69) (gI h1 68) 1498 6 = nI H' := by
    unfold cpR
    rw [if_pos (by omega), g69]
    exact u2
  refine ⟨nI H', h1, rI h1 68 (cpR (gI h1 69) (gI h1 68) 1498), ?_, ?_, ?_⟩
  · rw [S_X10_back L (d + 2), e1, cV_some, e10]
  · rw [S_X11_back L1 (d + 2), eM, cV_some, gI_rIs, e6]
  have L2 : lay (rI h1 68 (cpR (gI h1 69) (gI h1 68) 1498)) := lay_rI L1 (by decide)
  have e68 : gI (rI h1 68 (cpR (gI h1 69) (gI h1 68) 1498)) 68 = cpR (gI h1 69) (gI h1 68) 1498 := gI_rIs _ _ _
  have go : ∀ a, ¬ (9 ≤ a ∧ a ≤ 25) → ¬ a = 68 → gI (rI h1 68 (cpR (gI h1 69) (gI h1 68) 1498)) a = gI h a := fun a h1' h2 => by rw [gI_rI' _ _ _ _ h2]; exact C.2.1 a h1'
  have gr : ∀ a, ¬ a = 10 → ¬ a = 23 → gR (rI h1 68 (cpR (gI h1 69) (gI h1 68) 1498)) a = gR h a := fun a h1' h2 => C.2.2.1 a h1' h2
  have s : sm [9, 10, 11, 12, 13, 14, 15, 16, 17, 18, 19, 20, 21, 22, 23, 24, 25, 68] h (rI h1 68 (cpR (gI h1 69) (gI h1 68) 1498)) := by
    refine ⟨C.1, fun a ha => gr a ?_ ?_, fun a ha _ => go a ?_ ?_⟩
    · rintro rfl; rcases ha with ha | ha
      · exact ha (by decide)
      · omega
    · rintro rfl; rcases ha with ha | ha
      · exact ha (by decide)
      · omega
    · rintro ⟨x1, x2⟩
      rcases ha with ha | ha
      · apply ha
        simp only [List.mem_cons, List.not_mem_nil, or_false]
        omega
      · omega
    · rintro rfl; rcases ha with ha | ha
      · exact ha (by decide)
      · omega
  have e23 : ∀ t, t < 4 → gR (rI h1 68 (cpR (gI h1 69) (gI h1 68) 1498)) 23 t = gR h 40 t := C.2.2.2.2.1
  have htk := B'.2.2.2.2.2.1.1
  refine ⟨L2, ⟨n', W', P', SN', H', X', wr', tk, ⟨BOR_copy C B' (fun a a1 a2 => gI_rI' _ _ _ _ (by omega)) (fun a => rfl) (fun k hk => ?_), fun t ht => ?_⟩, n', W', P', SN', H', X', wr', tk, BOR_eq (fun j hj => ?_) (go 69 (by omega) (by omega)) (gr _ (by omega) (by omega)) (gr _ (by omega) (by omega)) B', Nat.le_refl _, fun t ht => ?_, fun i hi => ?_⟩, MISC_z s (by decide) M, ROOM_sm s R⟩
  · rw [e68]
    unfold cpR
    rw [if_pos hk, g69]
  · rw [e23 t (by omega), k2 t ht]
    exact txtR_sm s (by decide) (N.2 t (by omega))
  · have : j ≤ 16 := by
      revert j
      decide
    exact go _ (by omega) (by omega)
  · rw [gr 40 (by omega) (by omega), e23 t (by omega)]
  · rw [gr 40 (by omega) (by omega), sm_kd s, sm_kd s, e23 i hi]
    exact ⟨(k3 i hi).2, (k3 i hi).2⟩
