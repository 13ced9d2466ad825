--deps:19.lay 21.facts 22.00.names 22.01.eq 22.02.eq 22.03.eq 22.04.eq 22.05.eq 22.06.eq 22.07.eq 22.08.eq 22.09.eq 22.10.eq 22.11.eq 22.12.eq 22.13.eq 22.14.eq 22.15.eq 22.16.eq 22.17.eq 22.18.eq 22.19.eq 22.20.eq 22.21.eq 22.22.eq 22.23.eq 23.num 24.town 25.evc 26.evm 27.law 28.says 29.inv 30.api1 31.copy 32.api2 33.api3 34.api4 35.api5 36.deeds 37.hours 38.mdeeds 39.mhours 40.hist 41.full 42.acts 43.acts2 44.played 45.undo 46.trial 47.sets 48.sets2 66.script 67.law 71.yard 72.yard2 73.gx 74.gx2 75.gx3 76.reader 77.read2 78.read3 79.mtok 80.mpile 81.myard 82.msum 83.msum2 84.msum3 85.lexm 86.lexm2 87.lexc 88.cut 89.nums 90.keep 91.clause 92.ctext 93.mclause 94.mclause2 95.mtext 96.txtr 97.text
/-! TEXT on both sides -/
set_option linter.unusedSectionVars false
theorem TXT_all (d : Nat) (hd : 62 ≤ d) : TXT d := by
  intro c h xs ns hc I s
  have L := I.1
  have F := s.2.2.2.1
  have Wf := s.2.2.2.2
  obtain ⟨_, ⟨n, W, P, SN, Hh, X, wr, tn, N, K⟩, M, R⟩ := id I
  obtain ⟨r1, r2, r3, r4, ⟨hn5, HW, HG, r5⟩, r6, ⟨sc, r7⟩, r8⟩ := id N.1
  obtain ⟨t1, t2, t3, t4⟩ := id r6
  have t2' : gI h 9 4 = nI tn := t2
  have t3' : gI h 68 2 = nI tn := t3
  obtain ⟨⟨len, hl, e50, e67⟩, hby, m3, m4, m5⟩ := id M
  have h84 := L.1
  rcases Nat.lt_or_ge tn 4 with c4 | c4
  rotate_left
  · have h4 : tn = 4 := by omega
    refine ⟨-1, h, h, ?_, ?_, INV_up I, s⟩
    · rw [S_X10_text L, t2', if_neg (by rw [nIl (by omega) (by decide)]; show ¬ tn < 4; omega)]
    · rw [S_X11_text L, t3', if_pos (by rw [h4]; rfl)]
  -- the bytes
  obtain ⟨by_, hb⟩ : ∃ by_ : Nat → Nat, ∀ j, j < 300 → gI h 51 j = nI (by_ j) ∧ by_ j < 256 := ⟨fun j => ix (gI h 51 j), fun j hj => by
    obtain ⟨-, b, b1, b2⟩ := hby j hj
    show gI h 51 j = nI (ix (gI h 51 j)) ∧ ix (gI h 51 j) < 256
    rw [b2, ix_nI (by omega)]
    exact ⟨rfl, b1⟩⟩
  have hb71 : ∀ j, j < 300 → gI h 71 j = nI (by_ j) ∧ by_ j < 256 := fun j hj => by
    rw [← (hby j hj).1]; exact hb j hj
  obtain ⟨tk, ts, tv, te, T, H1, p1, p2, p3, p4, p5⟩ := c_pro L F Wf hl e50 hb (D := d + 12) (by omega)
  have hT3 : T ≤ 300 := p2.2.1.1.1
  have hT9 : tk T = 259 := p2.2.1.2.2.1
  have hTn := p2.2.1.2.2.2
  have nxt : ∀ {G : MH}, lay G → gI G 71 = gI h 71 → NXT G tk ts tv te T len := fun {G} LG e71 => m_NXT LG hl (by rw [e71]; exact hb71) (fun i hi => p3 (i + 1) (by omega))
  have C0 : CRT tk tv 0 (fun _ => 0) (fun _ => 0) (fun _ => 0) (fun _ => 0) (fun _ => []) (fun _ _ _ => 0) none none := ⟨rfl, fun i hi => absurd hi (Nat.not_lt_zero i), fun i hi => absurd hi (Nat.not_lt_zero i), fun i hi => absurd hi (Nat.not_lt_zero i)⟩
  have m9 : ∀ i, i < 4 → (gR h 23 i = 0 ∨ kd h (gR h 23 i) = 9) ∧ (gR h 40 i = 0 ∨ kd h (gR h 40 i) = 9) := by
    obtain ⟨n1, W1, P1, SN1, H1, X1, wr1, tk, B1, b1, b2, b3⟩ := K
    exact b3
  have kdE : ∀ {G : MH}, lay G → EXT h G → ∀ x, (x = 0 ∨ kd h x = 9) → (x = 0 ∨ kd G x = 9) := fun {G} LG E x hx => by
    rcases hx with z | z
    · exact Or.inl z
    · have hlt := kd_lt F z (by decide)
      rcases Nat.lt_or_ge x 84 with y | y
      · exact Or.inr (by rw [LG.2.1 x y, ← L.2.1 x y]; exact z)
      · exact Or.inr ((E.1 x y hlt).1.trans z)
  rcases x_read (D := d + 11) (by omega) 26 0 0 H1 (fun _ => 0) (fun _ => 0) (fun _ => 0) (fun _ => 0) (fun _ => []) (fun _ _ _ => 0) none none (by omega) p2 C0 (Nat.le_refl _) (Nat.zero_le _) with ⟨H2, n', nl', pos, K', F', S', ms, vs, dt, ds, q1, q2, q3, q4, q5⟩ | ⟨H2, n', nl', pos, K', F', S', ms, vs, dt, ds, fl, q, q1, q3, q4, ⟨q5, q6, q7⟩, ⟨q8, q9, q10⟩, q11, q12, q13, q14⟩
  · -- a text
    obtain ⟨H3, g1, g2, g3, g4, g5, ⟨g6, g7⟩, g8, g9, g10, g11⟩ := x_made q2 (D := d + 11) (by omega) (nI n')
    have Q2 := q2.1
    have hn24 : n' ≤ 24 := q2.2.2.1.2.2.2
    have E3 : EXT h H3 := EXT_tr Q2.2.1 g5 h84
    obtain ⟨r, er⟩ : ∃ r, r = mN H2 := ⟨_, rfl⟩
    rw [← er] at g1 g9 g10 g11
    obtain ⟨h1, eh1⟩ : ∃ h1, h1 = sI (sR (sI H3 50 1 0) 23 tn r) 9 4 (nI (tn + 1)) := ⟨_, rfl⟩
    have I1 : ∀ a, gI h1 a = if a = 9 then va_up (gI H3 9) 4 (nI (tn + 1)) else if a = 50 then va_up (gI H3 50) 1 0 else gI H3 a := fun a => by
      rw [eh1, gI_sIe]
      by_cases z : a = 9
      · rw [if_pos z, if_pos z]
        show va_up (gI (sI H3 50 1 0) 9) 4 _ = _
        rw [gI_sIe, if_neg (by decide)]
      · rw [if_neg z, if_neg z]
        show gI (sI H3 50 1 0) a = _
        rw [gI_sIe]
    have R1 : ∀ a, gR h1 a = if a = 23 then va_up (gR H3 23) tn r else gR H3 a := fun a => by rw [eh1]; rfl
    have k1 : h1.1 = H3.1 := by rw [eh1]; rfl
    have K1 : ∀ a, kd h1 a = kd H3 a := fun a => by unfold kd; rw [k1]
    have N1 : ∀ a, ln h1 a = ln H3 a := fun a => by unfold ln; rw [k1]
    have M1 : mN h1 = mN H3 := by unfold mN; rw [k1]
    have S1 : mS h1 = mS H3 := by unfold mS; rw [k1]
    have a3 : ∀ a, a < 84 → ¬ a ∈ RSC → gI H3 a = gI h a := fun a ha hr => by rw [(g8 a ha).1]; exact (Q2.2.2.1 a ha).2.1 hr
    have b3 : ∀ a, a < 84 → ¬ a = 55 → gR H3 a = gR h a := fun a ha hr => by rw [(g8 a ha).2.2]; exact (Q2.2.2.1 a ha).2.2 hr
    have c94 : gI H3 9 4 = nI tn := by rw [a3 9 (by decide) (by decide)]; exact t2'
    have eC : F_X10_text (d + 13) h = some (.int (nI tn), h1) := by
      have e94 : gI (sI H3 50 1 0) 9 4 = nI tn := by rw [gI_sIe, if_neg (by decide)]; exact c94
      have L5 : lay (sI H3 50 1 0) := lay_rI g2 (by decide)
      rw [S_X10_text L, t2', if_pos (by rw [nIl (by omega) (by decide)]; exact c4), p1, show d + 12 - 1 = d + 11 from rfl, q1, g1, cR_some, lt_def, if_neg (by have := Q2.1.1.1; omega), S_X0_addText L5, e94, if_pos (by rw [nIl (by omega) (by decide)]; exact c4), ck_pos ⟨(ib_nIi (by omega)).mpr c4, Or.inr (show kd H3 r = 9 from g9.1)⟩, ix_nI (by omega), lt_def, show gI (sR (sI H3 50 1 0) 23 tn r) 9 4 = nI tn from e94, nI_1, lt_def, ← eh1, cI_some, I1, if_pos rfl, va_same, nI_pred]
    have L1 : lay h1 := by
      rw [eh1]
      refine lay_rI (lay_rR (lay_rI g2 (by decide)) (fun q hq z => ?_)) (by decide)
      have : ∀ q ∈ cRF, ¬ q.1 = 23 := by decide +kernel
      exact absurd z (this q hq)
    have E1 : EXT h h1 := by
      refine ⟨fun a x1 x2 => ?_, fun l x1 x2 => ?_, by rw [M1]; exact E3.2.2⟩
      · rw [K1, N1, I1, R1, if_neg (by omega), if_neg (by omega), if_neg (by omega)]; exact E3.1 a x1 x2
      · rw [K1] at x2
        rw [R1, if_neg (by omega)]; exact E3.2.1 l x1 x2
    have F1 : frs h1 := fun a ha => by rw [K1]; exact g3 a (by omega)
    have W1 : LWF h1 := fun l hl4 => by
      rw [K1] at hl4
      have n23 : ¬ l = 23 := fun z => by
        rw [z, g2.2.1 23 (by decide)] at hl4
        exact absurd hl4 (by decide)
      rw [R1, if_neg n23, K1]; exact g4 l hl4
    have sk1 : sk xs ns h1 := by
      refine ⟨L1, ?_, ?_, F1, W1⟩
      · rw [N1, (g8 1 (by decide)).2.1, (Q2.2.2.1 1 (by decide)).1]; exact s.2.1
      · rw [I1, if_neg (by decide), if_neg (by decide), a3 1 (by decide) (by decide)]; exact s.2.2.1
    have e1_ : ∀ a, a < 84 → ¬ a ∈ RSC → ¬ a = 9 → gI h1 a = gI h a := fun a ha hr h9 => by rw [I1, if_neg h9, if_neg (fun z => hr (by rw [z]; decide)), a3 a ha hr]
    have h1_67 := e1_ 67 (by decide) (by decide) (by decide)
    have h1_68 := e1_ 68 (by decide) (by decide) (by decide)
    have h1_70 := e1_ 70 (by decide) (by decide) (by decide)
    have h1_71 := e1_ 71 (by decide) (by decide) (by decide)
    obtain ⟨a, t, pl, w, y1, ⟨y2, y3, y4, y5⟩, y6, y7, y8, y9⟩ := m_txO L1 (nxt L1 h1_71) (tx := tn) c4 hT9 hl hT3 (by rw [h1_71]; exact hb71) p3 (by rw [h1_67]; exact e67) (by rw [h1_68]; exact t3') hn24 q3 q4 (D := d + 13) (by omega)
    obtain ⟨h2, eh2⟩ : ∃ h2, h2 = sI (MD h1 a t pl w) 68 2 (nI (tn + 1)) := ⟨_, rfl⟩
    have I2 : ∀ b, ¬ b = 67 → ¬ b = 68 → ¬ b = 70 → ¬ b = 72 → gI h2 b = gI h1 b := fun b b1 b2 b3 b4 => by rw [eh2, gI_sIe, if_neg b2, gI_MDo _ _ _ _ _ b1 b3 b4]
    have I68 : gI h2 68 = va_up (gI h 68) 2 (nI (tn + 1)) := by rw [eh2, gI_sIe, if_pos rfl, gI_MDo _ _ _ _ _ (by decide) (by decide) (by decide), h1_68]
    have I67 : gI h2 67 = a := by rw [eh2, gI_sIe, if_neg (by decide), gI_MD67]
    have I70 : gI h2 70 = t := by rw [eh2, gI_sIe, if_neg (by decide), gI_MD70]
    have k2 : h2.1 = h1.1 := by rw [eh2]; rfl
    have R2 : ∀ b, gR h2 b = gR h1 b := fun b => by rw [eh2]; rfl
    have K2 : ∀ b, kd h2 b = kd h1 b := fun b => by unfold kd; rw [k2]
    have N2 : ∀ b, ln h2 b = ln h1 b := fun b => by unfold ln; rw [k2]
    have L2 : lay h2 := by rw [eh2]; exact lay_rI (lay_MD L1 _ _ _ _) (by decide)
    have E12 : EXT h1 h2 := ⟨fun b x1 x2 => ⟨K2 b, N2 b, I2 b (by omega) (by omega) (by omega) (by omega), R2 b⟩, ⟨fun l x1 x2 => (by rw [K2, F1 l x1] at x2; cases x2), (by unfold mN; rw [k2]; exact Nat.le_refl _)⟩⟩
    have E32 : EXT H3 h2 := by
      have E31 : EXT H3 h1 := ⟨fun b x1 x2 => ⟨K1 b, N1 b, by rw [I1, if_neg (by omega), if_neg (by omega)], by rw [R1, if_neg (by omega)]⟩, ⟨fun l x1 x2 => (by rw [K1, g3 l x1] at x2; cases x2), (by omega)⟩⟩
      exact EXT_tr E31 E12 g2.1
    have E2 : EXT h h2 := EXT_tr E1 E12 h84
    have i2 : ∀ b, b < 84 → ¬ b ∈ RSC → ¬ b = 9 → ¬ b = 67 → ¬ b = 68 → ¬ b = 70 → ¬ b = 72 → gI h2 b = gI h b := fun b x1 x2 x3 x4 x5 x6 x7 => by rw [I2 b x4 x5 x6 x7, e1_ b x1 x2 x3]
    have r2_ : ∀ b, b < 84 → ¬ b = 55 → ¬ b = 23 → gR h2 b = gR h b := fun b x1 x2 x3 => by rw [R2, R1, if_neg x3, b3 b x1 x2]
    have g23 : gR h2 23 = va_up (gR h 23) tn r := by rw [R2, R1, if_pos rfl, b3 23 (by decide) (by decide)]
    have i9 : gI h2 9 = va_up (gI h 9) 4 (nI (tn + 1)) := by rw [I2 9 (by decide) (by decide) (by decide) (by decide), I1, if_pos rfl, a3 9 (by decide) (by decide)]
    refine ⟨nI tn, h1, h2, eC, by rw [y1, eh2], ?_, sk1⟩
    refine T_inv (tn' := tn + 1) I F L2 E2 N K ?_ ?_ (by omega) (fun b x1 x2 => ⟨?_, ?_⟩) (i2 69 (by decide) (by decide) (by decide) (by decide) (by decide) (by decide) (by decide)) (fun u hu => by rw [g23, va_ne _ _ (by omega)]) (fun i hi => ⟨?_, ?_⟩) ⟨⟨0, by omega, ?_, ?_⟩, fun k hk => ?_, ?_, ?_, ?_⟩ ?_
    · refine BOR_mk N.1 (fun j hj => ?_) (fun k hk => by rw [I68, va_ne _ _ (by omega)]) ⟨hn5, HW, HG, ?_⟩ ?_ ⟨sc, ?_⟩
      · have hj8 : ∀ j, j ∈ [1, 2, 3, 4, 5, 6, 8, 9] → 9 + j < 84 ∧ ¬ 9 + j ∈ RSC ∧ ¬ 9 + j = 9 ∧ ¬ 9 + j = 67 ∧ ¬ 9 + j = 68 ∧ ¬ 9 + j = 70 ∧ ¬ 9 + j = 72 := by decide
        obtain ⟨z1, z2, z3, z4, z5, z6, z7⟩ := hj8 j hj
        exact i2 _ z1 z2 z3 z4 z5 z6 z7
      · rw [i2 (9 + 10) (by decide) (by decide) (by decide) (by decide) (by decide) (by decide) (by decide), i2 (9 + 11) (by decide) (by decide) (by decide) (by decide) (by decide) (by decide) (by decide), i2 (9 + 12) (by decide) (by decide) (by decide) (by decide) (by decide) (by decide) (by decide), I68]
        exact R5_a (fun k hk => va_ne _ _ (by omega)) r5
      · rw [i9, I68, show (9 + 14 : Nat) = 23 from rfl, g23, r2_ (9 + 1) (by decide) (by decide) (by decide)]
        refine ⟨by omega, va_same _ _ _, va_same _ _ _, ?_⟩
        rw [va_ne _ _ (by decide), va_ne _ _ (by decide)]
        rcases t4 with z | ⟨u, u1, u2, u3, u4⟩
        · exact Or.inl z
        · exact Or.inr ⟨u, by omega, u2, u3, by rw [va_ne _ _ (by omega)]; exact u4⟩
      · rw [i9, I68, i2 (9 + 15) (by decide) (by decide) (by decide) (by decide) (by decide) (by decide) (by decide), i2 (9 + 16) (by decide) (by decide) (by decide) (by decide) (by decide) (by decide) (by decide)]
        exact R7_a (va_ne _ _ (by decide)) (fun k hk => va_ne _ _ (by omega)) r7
    · intro u hu
      rw [g23]
      rcases Nat.lt_or_ge u tn with z | z
      · rw [va_ne _ _ (by omega)]
        exact txtR_ext F h84 E2 (fun j j1 j2 => by rw [I70, y6 j (by omega), h1_70]) (N.2 u z)
      · have hu' : u = tn := by omega
        subst hu'
        rw [va_same]
        have hr : r < mN H3 := kd_lt g3 g9.1 (by decide)
        obtain ⟨v1, v2, v3, v4⟩ := E32.1 r g9.2.1 hr
        obtain ⟨x1, x2⟩ := clsA_ext g3 g2.1 E32 g10.1
        obtain ⟨x3, x4⟩ := clsA_ext g3 g2.1 E32 g10.2.1
        obtain ⟨x5, x6⟩ := clsA_ext g3 g2.1 E32 g10.2.2
        refine txtR_new q3 hn24 ⟨v1.trans g9.1, g9.2.1, by rw [v4]; exact lwO_ext g3 g2.1 E32 g9.2.2.1, by rw [v4]; exact lwO_ext g3 g2.1 E32 g9.2.2.2⟩ (by rw [v4]; exact ⟨x1, x3, x5⟩) (fun i hi => ?_) (by rw [I70]; exact y7) (by rw [I70]; exact y8) (by rw [I70]; exact y9)
        rw [v4, x2, x4, x6]
        exact g11 i hi
    · exact i2 b (by omega) (fun z => by have : ∀ b, b ∈ RSC → 50 ≤ b := by decide
                                         have := this b z; omega) (by omega) (by omega) (by omega) (by omega) (by omega)
    · exact r2_ b (by omega) (by omega) (by omega)
    · rw [g23]
      by_cases z : i = tn
      · rw [z, va_same, K2, K1]; exact Or.inr g9.1
      · rw [va_ne _ _ z]; exact kdE L2 E2 _ (m9 i hi).1
    · rw [r2_ 40 (by decide) (by decide) (by decide)]; exact kdE L2 E2 _ (m9 i hi).2
    · rw [I2 50 (by decide) (by decide) (by decide) (by decide), I1, if_neg (by decide), if_pos rfl, va_same]; rfl
    · rw [I67]; exact y2
    · rw [I2 51 (by decide) (by decide) (by decide) (by decide), I2 71 (by decide) (by decide) (by decide) (by decide), e1_ 51 (by decide) (by decide) (by decide), h1_71]; exact hby k hk
    · rw [I67, y3, I2 55 (by decide) (by decide) (by decide) (by decide), I1, if_neg (by decide), if_neg (by decide), (g8 55 (by decide)).1]; exact q2.2.2.2.2.2.1
    · rw [I67, y4, I2 55 (by decide) (by decide) (by decide) (by decide), I1, if_neg (by decide), if_neg (by decide), (g8 55 (by decide)).1]; exact q2.2.2.2.2.2.2
    · rw [I67, y5, h1_67]; exact m5
    · obtain ⟨ra, rb⟩ := R
      refine ⟨?_, ?_⟩
      · show mN h2 ≤ _
        rw [show mN h2 = mN h1 by unfold mN; rw [k2], M1, g6, Q2.2.2.2.1]; omega
      · show mS h2 ≤ _
        have := Q2.2.2.2.2.1
        rw [show mS h2 = mS h1 by unfold mS; rw [k2], S1]; omega
  · -- a fault
    have Q2 := q8
    obtain ⟨h1, eh1⟩ : ∃ h1, h1 = sI H2 50 1 0 := ⟨_, rfl⟩
    have I1 : ∀ a, gI h1 a = if a = 50 then va_up (gI H2 50) 1 0 else gI H2 a := fun a => by rw [eh1, gI_sIe]
    have Rw : RWR H2 h1 := by rw [eh1]; exact RWR_rI H2 (by decide) _
    have L1 : lay h1 := by rw [eh1]; exact lay_rI Q2.1.1 (by decide)
    have Q1 : CQ h h1 nl' := CQ_row Q2 Rw L1
    have F1 := Q1.1.2.1
    have eC : F_X10_text (d + 13) h = some (.int (-1), h1) := by
      rw [S_X10_text L, t2', if_pos (by rw [nIl (by omega) (by decide)]; exact c4), p1, show d + 12 - 1 = d + 11 from rfl, q1, cR_some, lt_def, if_pos rfl, ← eh1]
    have e1_ : ∀ a, a < 84 → ¬ a ∈ RSC → gI h1 a = gI h a := fun a ha hr => (Q1.2.2.1 a ha).2.1 hr
    have h1_67 := e1_ 67 (by decide) (by decide)
    have h1_68 := e1_ 68 (by decide) (by decide)
    have h1_70 := e1_ 70 (by decide) (by decide)
    have h1_71 := e1_ 71 (by decide) (by decide)
    have n9 : ¬ tk (pos n') = 259 := q14
    obtain ⟨a, t, pl, w, y1, ⟨y2, y3, y4, y5⟩, y6⟩ := m_txN L1 (nxt L1 h1_71) (tx := tn) c4 hT9 hl hT3 (by rw [h1_71]; exact hb71) p3 (by rw [h1_67]; exact e67) (by rw [h1_68]; exact t3') q12 q3 ⟨q6, q7⟩ q4 n9 (D := d + 13) (by omega)
    obtain ⟨h2, eh2⟩ : ∃ h2, h2 = MD h1 a t pl w := ⟨_, rfl⟩
    have I2 : ∀ b, ¬ b = 67 → ¬ b = 70 → ¬ b = 72 → gI h2 b = gI h1 b := fun b b1 b3 b4 => by rw [eh2, gI_MDo _ _ _ _ _ b1 b3 b4]
    have I67 : gI h2 67 = a := by rw [eh2, gI_MD67]
    have I70 : gI h2 70 = t := by rw [eh2, gI_MD70]
    have k2 : h2.1 = h1.1 := by rw [eh2]; rfl
    have R2 : ∀ b, gR h2 b = gR h1 b := fun b => by rw [eh2]; rfl
    have K2 : ∀ b, kd h2 b = kd h1 b := fun b => by unfold kd; rw [k2]
    have N2 : ∀ b, ln h2 b = ln h1 b := fun b => by unfold ln; rw [k2]
    have L2 : lay h2 := by rw [eh2]; exact lay_MD L1 _ _ _ _
    have E12 : EXT h1 h2 := ⟨fun b x1 x2 => ⟨K2 b, N2 b, I2 b (by omega) (by omega) (by omega), R2 b⟩, ⟨fun l x1 x2 => (by rw [K2, F1 l x1] at x2; cases x2), (by unfold mN; rw [k2]; exact Nat.le_refl _)⟩⟩
    have E2 : EXT h h2 := EXT_tr Q1.2.1 E12 h84
    have i2 : ∀ b, b < 84 → ¬ b ∈ RSC → ¬ b = 67 → ¬ b = 70 → ¬ b = 72 → gI h2 b = gI h b := fun b x1 x2 x4 x6 x7 => by rw [I2 b x4 x6 x7, e1_ b x1 x2]
    have r2_ : ∀ b, b < 84 → ¬ b = 55 → gR h2 b = gR h b := fun b x1 x2 => by rw [R2, (Q1.2.2.1 b x1).2.2 x2]
    have sk1 : sk xs ns h1 := ⟨L1, by rw [(Q1.2.2.1 1 (by decide)).1]; exact s.2.1, by rw [e1_ 1 (by decide) (by decide)]; exact s.2.2.1, F1, Q1.1.2.2⟩
    refine ⟨-1, h1, h2, eC, by rw [y1, eh2], ?_, sk1⟩
    refine T_inv (tn' := tn) I F L2 E2 N K ?_ (fun u hu => ?_) (Nat.le_refl _) (fun b x1 x2 => ⟨?_, ?_⟩) (i2 69 (by decide) (by decide) (by decide) (by decide) (by decide)) (fun u hu => by rw [r2_ 23 (by decide) (by decide)]) (fun i hi => ⟨?_, ?_⟩) ⟨⟨0, by omega, ?_, ?_⟩, fun k hk => ?_, ?_, ?_, ?_⟩ ?_
    · refine BOR_eq (fun j hj => ?_) (i2 68 (by decide) (by decide) (by decide) (by decide) (by decide)) (r2_ 10 (by decide) (by decide)) (r2_ 23 (by decide) (by decide)) N.1
      have hj8 : ∀ j, j ∈ [0, 1, 2, 3, 4, 5, 6, 8, 9, 10, 11, 12, 15, 16] → 9 + j < 84 ∧ ¬ 9 + j ∈ RSC ∧ ¬ 9 + j = 67 ∧ ¬ 9 + j = 70 ∧ ¬ 9 + j = 72 := by decide
      obtain ⟨z1, z2, z4, z6, z7⟩ := hj8 j hj
      exact i2 _ z1 z2 z4 z6 z7
    · rw [r2_ 23 (by decide) (by decide)]
      exact txtR_ext F h84 E2 (fun j j1 j2 => by rw [I70, y6 j (by omega), h1_70]) (N.2 u hu)
    · exact i2 b (by omega) (fun z => by have : ∀ b, b ∈ RSC → 50 ≤ b := by decide
                                         have := this b z; omega) (by omega) (by omega) (by omega)
    · exact r2_ b (by omega) (by omega)
    · rw [r2_ 23 (by decide) (by decide)]; exact kdE L2 E2 _ (m9 i hi).1
    · rw [r2_ 40 (by decide) (by decide)]; exact kdE L2 E2 _ (m9 i hi).2
    · rw [I2 50 (by decide) (by decide) (by decide), I1, if_pos rfl, va_same]; rfl
    · rw [I67]; exact y2
    · rw [I2 51 (by decide) (by decide) (by decide), I2 71 (by decide) (by decide) (by decide), e1_ 51 (by decide) (by decide), h1_71]; exact hby k hk
    · rw [I67, y3, I2 55 (by decide) (by decide) (by decide), I1, if_neg (by decide)]; exact q9
    · rw [I67, y4, I2 55 (by decide) (by decide) (by decide), I1, if_neg (by decide)]; exact q10
    · rw [I67, y5, h1_67]; exact m5
    · obtain ⟨ra, rb⟩ := R
      refine ⟨?_, ?_⟩
      · show mN h2 ≤ _
        rw [show mN h2 = mN h1 by unfold mN; rw [k2], Q1.2.2.2.1]; omega
      · show mS h2 ≤ _
        have := Q1.2.2.2.2.1
        rw [show mS h2 = mS h1 by unfold mS; rw [k2]]; omega
