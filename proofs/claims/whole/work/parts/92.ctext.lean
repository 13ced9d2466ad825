--deps:19.lay 21.facts 22.00.names 22.01.eq 22.02.eq 22.03.eq 22.04.eq 22.05.eq 22.06.eq 22.07.eq 22.08.eq 22.09.eq 22.10.eq 22.11.eq 22.12.eq 22.13.eq 22.14.eq 22.15.eq 22.16.eq 22.17.eq 22.18.eq 22.19.eq 22.20.eq 22.21.eq 22.22.eq 22.23.eq 23.num 24.town 25.evc 26.evm 27.law 28.says 29.inv 36.deeds 37.hours 66.script 71.yard 72.yard2 73.gx 74.gx2 75.gx3 76.reader 77.read2 78.read3 79.mtok 80.mpile 81.myard 82.msum 85.lexm 86.lexm2 87.lexc 88.cut 89.nums 90.keep 91.clause
/-! THE CLASS READS A TEXT -/
set_option linter.unusedSectionVars false
def dtS (o : Option Den) (n : Nat) (K : Nat → Nat) (vs : Nat → Den) (k : Nat) : Prop := match o with
  | none => ∀ i, i < n → ¬ K i = k
  | some v => ∃ i, i < n ∧ K i = k ∧ vs i = v
def CRT (tk tv : Nat → Nat) (n : Nat) (pos K F S : Nat → Nat) (ms : Nat → List (Nat × Nat)) (vs : Nat → Den) (dt ds : Option Den) : Prop := pos 0 = 0 ∧ (∀ i, i < n → CLO tk tv (pos i) (pos (i + 1)) (K i) (F i) (S i) (ms i) (vs i) ∧ (K i ≤ 1 → ∀ j, j < i → ¬ K j = K i)) ∧ dtS dt n K vs 0 ∧ dtS ds n K vs 1
theorem CRT_up {tk tv : Nat → Nat} {n : Nat} {pos K F S : Nat → Nat} {ms : Nat → List (Nat × Nat)} {vs : Nat → Den} {dt ds : Option Den} (C : CRT tk tv n pos K F S ms vs dt ds) {q K' F' S' : Nat} {m : List (Nat × Nat)} {v : Den} (O : CLO tk tv (pos n) q K' F' S' m v) (t0 : ¬ (K' = 0 ∧ dt.isSome = true)) (t1 : ¬ (K' = 1 ∧ ds.isSome = true)) : CRT tk tv (n + 1) (va_up pos (n + 1) q) (va_up K n K') (va_up F n F') (va_up S n S') (va_up ms n m) (va_up vs n v) (if K' = 0 then some v else dt) (if K' = 1 then some v else ds) := by
  obtain ⟨c1, c2, c3, c4⟩ := C
  have none_ : ∀ {o : Option Den} {k : Nat}, dtS o n K vs k → ¬ o.isSome = true → ∀ i, i < n → ¬ K i = k := by
    intro o k d h
    cases o with
    | none => exact d
    | some v => exact absurd rfl h
  have up : ∀ {o : Option Den} {k : Nat}, dtS o n K vs k → dtS (if K' = k then some v else o) (n + 1) (va_up K n K') (va_up vs n v) k := by
    intro o k d
    by_cases z : K' = k
    · rw [if_pos z]
      exact ⟨n, by omega, by rw [va_same]; exact z, va_same _ _ _⟩
    · rw [if_neg z]
      cases o with
      | none =>
        intro i hi
        rcases Nat.lt_or_ge i n with w | w
        · rw [va_ne _ _ (by omega)]; exact d i w
        · rw [show i = n by omega, va_same]; exact z
      | some u =>
        obtain ⟨i, i1, i2, i3⟩ := d
        exact ⟨i, by omega, by rw [va_ne _ _ (by omega)]; exact i2, by rw [va_ne _ _ (by omega)]; exact i3⟩
  refine ⟨by rw [va_ne _ _ (by omega)]; exact c1, fun i hi => ?_, up c3, up c4⟩
  rcases Nat.lt_or_ge i n with w | w
  · have hz : ¬ i = n := by omega
    rw [va_ne _ _ hz, va_ne _ _ hz, va_ne _ _ hz, va_ne _ _ hz, va_ne _ _ hz, va_ne _ _ (show ¬ i = n + 1 by omega), va_ne _ _ (show ¬ i + 1 = n + 1 by omega)]
    refine ⟨(c2 i w).1, fun h1 j hj => ?_⟩
    rw [va_ne _ _ (by omega)]
    exact (c2 i w).2 h1 j hj
  · have hz : i = n := by omega
    subst hz
    rw [va_same, va_same, va_same, va_same, va_same, va_same, va_ne _ _ (show ¬ i = i + 1 by omega)]
    refine ⟨O, fun h1 j hj => ?_⟩
    rw [va_ne _ _ (by omega)]
    have : K' = 0 ∨ K' = 1 := by omega
    rcases this with z | z
    · rw [z]; exact none_ c3 (fun w => t0 ⟨z, w⟩) j hj
    · rw [z]; exact none_ c4 (fun w => t1 ⟨z, w⟩) j hj
/-- the loop over the clauses -/
theorem x_read {h0 : MH} {tk ts tv : Nat → Nat} {T : Nat} {D : Nat} (hD : 71 ≤ D) : ∀ (r n nl : Nat) (H : MH) (pos K F S : Nat → Nat) (ms : Nat → List (Nat × Nat)) (vs : Nat → Den) (dt ds : Option Den), 25 - n < r → CST h0 H tk ts tv T (pos n) n nl K F S dt ds → CRT tk tv n pos K F S ms vs dt ds → nl ≤ n → (nl ≤ (if dt.isSome = true then 1 else 0) + (if ds.isSome = true then 1 else 0)) → (∃ H' n' nl' pos' K' F' S' ms' vs' dt' ds', G_X4_read_23 D (nI n) H = G_X4_read_37 D (nI n') H' ∧ CST h0 H' tk ts tv T (pos' n') n' nl' K' F' S' dt' ds' ∧ CRT tk tv n' pos' K' F' S' ms' vs' dt' ds' ∧ tk (pos' n') = 259 ∧ nl' ≤ 2) ∨ (∃ H' n' nl' pos' K' F' S' ms' vs' dt' ds' fl q, G_X4_read_23 D (nI n) H = some (.ref 0, H') ∧ CRT tk tv n' pos' K' F' S' ms' vs' dt' ds' ∧ CLN tk tv dt'.isSome ds'.isSome n' (pos' n') fl q ∧ (q ≤ T ∧ 1 ≤ fl ∧ fl ≤ 6) ∧ CFL h0 ts H' nl' fl q ∧ nl' ≤ 2 ∧ n' ≤ 24 ∧ pos' n' ≤ T ∧ ¬ tk (pos' n') = 259) := by
  have two : ∀ (dt ds : Option Den), (if dt.isSome = true then 1 else 0) + (if ds.isSome = true then 1 else 0) ≤ 2 := by
    intro dt ds
    split <;> split <;> omega
  intro r
  induction r with
  | zero => intro n nl H pos K F S ms vs dt ds hr; omega
  | succ r ih =>
    intro n nl H pos K F S ms vs dt ds hr C R hnl hnl2
    have C0 := C
    obtain ⟨C1, C2, ⟨e5, e6, hp, hn⟩, C4, C5⟩ := C
    have L := C1.1.1
    have htk := (C2.2.1 (pos n) hp).2.2.2.1
    have hT := C2.1.1
    have kind0 : F_X4_kind D H = some (.int (nI (tk (pos n))), H) := by
      obtain ⟨e, rfl⟩ : ∃ e, D = e + 1 := ⟨D - 1, by omega⟩
      rw [S_X4_kind L, e5, ck_pos ((ib_nIi (by omega)).mpr (by omega)), ix_nI (by omega), (C2.2.1 (pos n) hp).1]
    have t2 := two dt ds
    rw [S_X4_read_23 L, if_pos (by rw [nIL (by omega) (by decide)]; exact hn), kind0, cI_some]
    by_cases c1 : tk (pos n) = 259
    · rw [if_pos (by rw [c1]; rfl)]
      exact Or.inl ⟨H, n, nl, pos, K, F, S, ms, vs, dt, ds, rfl, C0, R, c1, by omega⟩
    rw [if_neg (by rw [nIe (by omega) (by decide)]; exact c1)]
    rcases x_clause C0 (D := D) (by omega) with ⟨H', q, K', F', S', m, v, g1, g2, ⟨g3, g4, g5⟩, g6⟩ | ⟨H', fl, q, g1, g2, g3, g4⟩
    · rw [g1, cI_some, if_neg (by decide), nI_1]
      refine ih (n + 1) (nl + if K' ≤ 1 then 1 else 0) H' (va_up pos (n + 1) q) (va_up K n K') (va_up F n F') (va_up S n S') (va_up ms n m) (va_up vs n v) _ _ (by omega) ?_ (CRT_up R g2 g4 g5) ?_ ?_
      · rw [va_same]; exact g6
      · split <;> omega
      · by_cases z0 : K' = 0
        · have h1 : ¬ dt.isSome = true := fun w => g4 ⟨z0, w⟩
          rw [if_neg h1] at hnl2
          rw [if_pos (by omega), if_pos z0, if_neg (show ¬ K' = 1 by omega)]
          simp only [Option.isSome_some, if_true]
          omega
        · by_cases z1 : K' = 1
          · have h1 : ¬ ds.isSome = true := fun w => g5 ⟨z1, w⟩
            rw [if_neg h1] at hnl2
            rw [if_pos (by omega), if_neg z0, if_pos z1]
            simp only [Option.isSome_some, if_true]
            omega
          · rw [if_neg (show ¬ K' ≤ 1 by omega), if_neg z0, if_neg z1]
            exact hnl2
    · rw [g1, cI_some, if_pos rfl]
      exact Or.inr ⟨H', n, nl, pos, K, F, S, ms, vs, dt, ds, fl, q, rfl, R, g2, g3, g4, by omega, hn, hp, c1⟩
/-- a text made of what was read -/
theorem x_made {h0 H : MH} {tk ts tv : Nat → Nat} {T p n nl : Nat} {K F S : Nat → Nat} {dt ds : Option Den} (C : CST h0 H tk ts tv T p n nl K F S dt ds) {D : Nat} (hD : 3 ≤ D) (l1 : Int32) : ∃ H', G_X4_read_37 D l1 H = some (.ref (mN H), H') ∧ lay H' ∧ frs H' ∧ LWF H' ∧ EXT H H' ∧ (mN H' = mN H + 4 ∧ mS H' ≤ mS H + 77) ∧ (∀ a, a < 84 → gI H' a = gI H a ∧ ln H' a = ln H a ∧ gR H' a = gR H a) ∧ txC H' (mN H) dt ds ∧ (clsA H' (gR H' (mN H) 2) n ∧ clsA H' (gR H' (mN H) 3) n ∧ clsA H' (gR H' (mN H) 4) n) ∧ ∀ i, i < n → gI H' (gR H' (mN H) 2) i = nI (300 + K i) ∧ gI H' (gR H' (mN H) 3) i = nI (F i) ∧ gI H' (gR H' (mN H) 4) i = nI (S i) := by
  obtain ⟨⟨⟨L, Fr, W⟩, E0, C1, C1a, C1b, C1c⟩, C2, ⟨e5, e6, hp, hn⟩, C4, ⟨C5, C6⟩, C7⟩ := C
  have h84 := L.1
  obtain ⟨h1, eh1⟩ : ∃ h1, h1 = mA H 9 5 := ⟨_, rfl⟩
  have m1 : mN h1 = mN H + 1 := by rw [eh1]; rfl
  have kk : ∀ a, a < 84 → kd H a = 20 → kd h1 a = 20 := fun a ha hk => by rw [eh1, kd_mA, if_neg (by omega)]; exact hk
  have k56 : kd H 56 = 20 := L.2.1 56 (by decide)
  have k57 : kd H 57 = 20 := L.2.1 57 (by decide)
  have k58 : kd H 58 = 20 := L.2.1 58 (by decide)
  have l56 : ln H 56 = 24 := L.2.2.1 56 (by decide) (by decide)
  have l57 : ln H 57 = 24 := L.2.2.1 57 (by decide) (by decide)
  have l58 : ln H 58 = 24 := L.2.2.1 58 (by decide) (by decide)
  have cp : ∀ (h : MH) (a : Nat), a < 84 → 84 ≤ mN h → kd h a = 20 → ln h a = 24 → ∃ g', (∀ j, j < n → g' j = gI h a j) ∧ mE mtab D 88 [.ref a, .int (nI n)] h = some (.ref (mN h), rI (mA h 20 n) (mN h) g') := fun h a ha hm hk hl => s_copy (by omega) hk (by omega) (by omega) (by omega)
  have step : ∀ (h : MH) (g' : Nat → Int32) (a : Nat), a < mN h → kd (rI (mA h 20 n) (mN h) g') a = kd h a ∧ ln (rI (mA h 20 n) (mN h) g') a = ln h a ∧ gI (rI (mA h 20 n) (mN h) g') a = gI h a ∧ gR (rI (mA h 20 n) (mN h) g') a = gR h a := fun h g' a ha => by
    refine ⟨?_, ?_, ?_, ?_⟩
    · show kd (mA h 20 n) a = _; rw [kd_mA, if_neg (by omega)]
    · show ln (mA h 20 n) a = _; rw [ln_mA, if_neg (by omega)]
    · rw [gI_rI, if_neg (by omega), gI_mA, if_neg (by omega)]
    · show gR (mA h 20 n) a = _; rw [gR_mA, if_neg (by omega)]
  have new : ∀ (h : MH) (g' : Nat → Int32), kd (rI (mA h 20 n) (mN h) g') (mN h) = 20 ∧ ln (rI (mA h 20 n) (mN h) g') (mN h) = n ∧ gI (rI (mA h 20 n) (mN h) g') (mN h) = g' ∧ gR (rI (mA h 20 n) (mN h) g') (mN h) = (fun _ => 0) ∧ mN (rI (mA h 20 n) (mN h) g') = mN h + 1 ∧ mS (rI (mA h 20 n) (mN h) g') = mS h + n := fun h g' => by
    refine ⟨?_, ?_, ?_, ?_, rfl, rfl⟩
    · show kd (mA h 20 n) (mN h) = _; rw [kd_mA, if_pos rfl]
    · show ln (mA h 20 n) (mN h) = _; rw [ln_mA, if_pos rfl]
    · rw [gI_rI, if_pos rfl]
    · show gR (mA h 20 n) (mN h) = _; rw [gR_mA, if_pos rfl]
  have s1 : ∀ a, a < mN H → kd h1 a = kd H a ∧ ln h1 a = ln H a ∧ gI h1 a = gI H a ∧ gR h1 a = gR H a := fun a ha => by
    rw [eh1, kd_mA, ln_mA, gI_mA, gR_mA, if_neg (by omega), if_neg (by omega), if_neg (by omega), if_neg (by omega)]
    exact ⟨rfl, rfl, rfl, rfl⟩
  obtain ⟨ga, ga1, ga2⟩ := cp h1 56 (by decide) (by omega) ((s1 56 (by omega)).1.trans k56) ((s1 56 (by omega)).2.1.trans l56)
  obtain ⟨h2, eh2⟩ : ∃ h2, h2 = rI (mA h1 20 n) (mN h1) ga := ⟨_, rfl⟩
  have s2 : ∀ a, a < mN h1 → kd h2 a = kd h1 a ∧ ln h2 a = ln h1 a ∧ gI h2 a = gI h1 a ∧ gR h2 a = gR h1 a := fun a ha => by rw [eh2]; exact step h1 ga a ha
  have n2 := new h1 ga
  rw [← eh2] at n2
  rw [m1] at n2
  obtain ⟨gb, gb1, gb2⟩ := cp h2 57 (by decide) (by omega) ((s2 57 (by omega)).1.trans ((s1 57 (by omega)).1.trans k57)) ((s2 57 (by omega)).2.1.trans ((s1 57 (by omega)).2.1.trans l57))
  obtain ⟨h3, eh3⟩ : ∃ h3, h3 = rI (mA h2 20 n) (mN h2) gb := ⟨_, rfl⟩
  have s3 : ∀ a, a < mN h2 → kd h3 a = kd h2 a ∧ ln h3 a = ln h2 a ∧ gI h3 a = gI h2 a ∧ gR h3 a = gR h2 a := fun a ha => by rw [eh3]; exact step h2 gb a ha
  have n3 := new h2 gb
  rw [← eh3, n2.2.2.2.2.1] at n3
  obtain ⟨gc, gc1, gc2⟩ := cp h3 58 (by decide) (by omega) ((s3 58 (by omega)).1.trans ((s2 58 (by omega)).1.trans ((s1 58 (by omega)).1.trans k58))) ((s3 58 (by omega)).2.1.trans ((s2 58 (by omega)).2.1.trans ((s1 58 (by omega)).2.1.trans l58)))
  obtain ⟨h4, eh4⟩ : ∃ h4, h4 = rI (mA h3 20 n) (mN h3) gc := ⟨_, rfl⟩
  have s4 : ∀ a, a < mN h3 → kd h4 a = kd h3 a ∧ ln h4 a = ln h3 a ∧ gI h4 a = gI h3 a ∧ gR h4 a = gR h3 a := fun a ha => by rw [eh4]; exact step h3 gc a ha
  have n4 := new h3 gc
  rw [← eh4, n3.2.2.2.2.1] at n4
  have m4 : mN h4 = mN H + 4 := by rw [n4.2.2.2.2.1]
  have S4 : mS h4 = mS H + 5 + n + n + n := by rw [n4.2.2.2.2.2, n3.2.2.2.2.2, n2.2.2.2.2.2, eh1]; rfl
  have old : ∀ a, a < mN H → kd h4 a = kd H a ∧ ln h4 a = ln H a ∧ gI h4 a = gI H a ∧ gR h4 a = gR H a := fun a ha => by
    obtain ⟨p1, p2, p3, p4⟩ := s1 a ha
    obtain ⟨q1, q2, q3, q4⟩ := s2 a (by omega)
    obtain ⟨r1, r2, r3, r4⟩ := s3 a (by omega)
    obtain ⟨t1, t2, t3, t4⟩ := s4 a (by omega)
    exact ⟨t1.trans (r1.trans (q1.trans p1)), t2.trans (r2.trans (q2.trans p2)), t3.trans (r3.trans (q3.trans p3)), t4.trans (r4.trans (q4.trans p4))⟩
  have kT : kd h4 (mN H) = 9 := by
    rw [(s4 _ (by omega)).1, (s3 _ (by omega)).1, (s2 _ (by omega)).1, eh1, kd_mA, if_pos rfl]
  have c1 : kd h4 (mN H + 1) = 20 ∧ ln h4 (mN H + 1) = n ∧ gI h4 (mN H + 1) = ga := by
    obtain ⟨r1, r2, r3, r4⟩ := s3 (mN H + 1) (by omega)
    obtain ⟨t1, t2, t3, t4⟩ := s4 (mN H + 1) (by omega)
    exact ⟨t1.trans (r1.trans n2.1), t2.trans (r2.trans n2.2.1), t3.trans (r3.trans n2.2.2.1)⟩
  have c2 : kd h4 (mN H + 2) = 20 ∧ ln h4 (mN H + 2) = n ∧ gI h4 (mN H + 2) = gb := by
    obtain ⟨t1, t2, t3, t4⟩ := s4 (mN H + 2) (by omega)
    exact ⟨t1.trans n3.1, t2.trans n3.2.1, t3.trans n3.2.2.1⟩
  have c3 : kd h4 (mN H + 3) = 20 ∧ ln h4 (mN H + 3) = n ∧ gI h4 (mN H + 3) = gc := ⟨n4.1, n4.2.1, n4.2.2.1⟩
  obtain ⟨lt, elt⟩ : ∃ lt, lt = gR H 55 9 := ⟨_, rfl⟩
  obtain ⟨ls, els⟩ : ∃ ls, ls = gR H 55 10 := ⟨_, rfl⟩
  obtain ⟨H', eH'⟩ : ∃ H', H' = sR (sR (sR (sR (sR h4 (mN H) 0 lt) (mN H) 1 ls) (mN H) 2 (mN H + 1)) (mN H) 3 (mN H + 2)) (mN H) 4 (mN H + 3) := ⟨_, rfl⟩
  have r0 : ∀ (h : MH) (b j v c : Nat), gR (sR h b j v) c = if c = b then va_up (gR h b) j v else gR h c := fun h b j v c => rfl
  have RT : gR H' (mN H) = va_up (va_up (va_up (va_up (va_up (gR h4 (mN H)) 0 lt) 1 ls) 2 (mN H + 1)) 3 (mN H + 2)) 4 (mN H + 3) := by
    rw [eH', r0, if_pos rfl, r0, if_pos rfl, r0, if_pos rfl, r0, if_pos rfl, r0, if_pos rfl]
  have RO : ∀ a, ¬ a = mN H → gR H' a = gR h4 a := fun a ha => by
    rw [eH', r0, if_neg ha, r0, if_neg ha, r0, if_neg ha, r0, if_neg ha, r0, if_neg ha]
  have KK : ∀ a, kd H' a = kd h4 a := fun a => by rw [eH']; rfl
  have LL : ∀ a, ln H' a = ln h4 a := fun a => by rw [eH']; rfl
  have II : ∀ a, gI H' a = gI h4 a := fun a => by rw [eH']; rfl
  have MM : mN H' = mN H + 4 := by rw [eH']; exact m4
  have SS : mS H' = mS H + 5 + n + n + n := by rw [eH']; exact S4
  have g55 : ∀ h, (h = h1 ∨ h = h2 ∨ h = h3) → gI h 55 6 = nI n := by
    intro h hh
    rcases hh with rfl | rfl | rfl
    · rw [(s1 55 (by omega)).2.2.1]; exact e6
    · rw [(s2 55 (by omega)).2.2.1, (s1 55 (by omega)).2.2.1]; exact e6
    · rw [(s3 55 (by omega)).2.2.1, (s2 55 (by omega)).2.2.1, (s1 55 (by omega)).2.2.1]; exact e6
  have fr4 : ∀ a, mN H + 4 ≤ a → kd h4 a = 0 := by
    intro a ha
    rw [eh4]; show kd (mA h3 20 n) a = 0
    rw [kd_mA, if_neg (by omega), eh3]; show kd (mA h2 20 n) a = 0
    rw [kd_mA, if_neg (by omega), eh2]; show kd (mA h1 20 n) a = 0
    rw [kd_mA, if_neg (by omega), eh1, kd_mA, if_neg (by omega)]
    exact Fr a (by omega)
  have o4 : ∀ l, kd H' l = 4 → l < mN H := by
    intro l hl
    rw [KK] at hl
    rcases Nat.lt_or_ge l (mN H) with z | z
    · exact z
    · exfalso
      rcases Nat.lt_or_ge l (mN H + 4) with y | y
      · have : l = mN H ∨ l = mN H + 1 ∨ l = mN H + 2 ∨ l = mN H + 3 := by omega
        rcases this with q | q | q | q
        · rw [q, kT] at hl; cases hl
        · rw [q, c1.1] at hl; cases hl
        · rw [q, c2.1] at hl; cases hl
        · rw [q, c3.1] at hl; cases hl
      · rw [fr4 l y] at hl; cases hl
  have E : EXT H H' := by
    refine ⟨fun a h1' h2' => ?_, fun l hl hk => absurd (o4 l hk) (by omega), by omega⟩
    rw [KK, LL, II, RO a (by omega)]
    exact old a h2'
  have Fr' : frs H' := fun a ha => by rw [KK]; exact fr4 a (by omega)
  have W' : LWF H' := fun l hl => by
    have hlt := o4 l hl
    rw [KK, (old l hlt).1] at hl
    rw [RO l (by omega), (old l hlt).2.2.2]
    rcases W l hl with q | q
    · exact Or.inl q
    · refine Or.inr ?_
      have := kd_lt Fr rfl q
      rw [KK, (old _ this).1]
      exact q
  have nst : ∀ a, mN H ≤ a → ¬ stk H' a := fun a ha z => by
    obtain ⟨z1, l, z2, z3, z4⟩ := z
    have hlt := o4 l z3
    rw [KK, (old l hlt).1] at z3
    rw [RO l (by omega), (old l hlt).2.2.2] at z4
    rcases W l z3 with q | q
    · omega
    · rw [z4] at q
      exact q (Fr a ha)
  have ec : G_X4_read_37 D l1 H = some (.ref (mN H), H') := by
    have e92 : mE mtab D 92 [.ref (mN H), .ref lt, .ref ls, .ref (mN H + 1), .ref (mN H + 2), .ref (mN H + 3)] h4 = some (.int 0, H') := by
      obtain ⟨d, rfl⟩ : ∃ d, D = d + 1 := ⟨D - 1, by omega⟩
      rw [D_X8_init, ck_pos (by omega), ck_pos kT, lt_def, ck_pos (show kd (sR h4 (mN H) 0 lt) (mN H) = 9 from kT), lt_def, ck_pos (show kd (sR (sR h4 (mN H) 0 lt) (mN H) 1 ls) (mN H) = 9 from kT), lt_def, ck_pos (show kd (sR (sR (sR h4 (mN H) 0 lt) (mN H) 1 ls) (mN H) 2 (mN H + 1)) (mN H) = 9 from kT), lt_def, ck_pos (show kd (sR (sR (sR (sR h4 (mN H) 0 lt) (mN H) 1 ls) (mN H) 2 (mN H + 1)) (mN H) 3 (mN H + 2)) (mN H) = 9 from kT), lt_def, eH']
    rw [S_X4_read_37 L, lt_def, ← eh1, g55 h1 (Or.inl rfl), ga2, cR_some, ← eh2, g55 h2 (Or.inr (Or.inl rfl)), gb2, cR_some, ← eh3, g55 h3 (Or.inr (Or.inr rfl)), gc2, cR_some, ← eh4, ck_pos kT, (s1 55 (by omega)).2.2.2, ← elt, ← els, m1, n2.2.2.2.2.1, n3.2.2.2.2.1, e92, cV_some]
  have LH : lay H' := by
    refine ⟨by omega, fun a ha => ?_, fun a h1' ha => ?_, fun q hq => ?_, ?_⟩
    · rw [KK, (old a (by omega)).1]; exact L.2.1 a ha
    · rw [LL, (old a (by omega)).2.1]; exact L.2.2.1 a h1' ha
    · have := (cRF_lt q hq).1
      rw [RO q.1 (by omega), (old q.1 (by omega)).2.2.2]; exact L.2.2.2.1 q hq
    · rw [II, II, II, II, II, II, (old 2 (by omega)).2.2.1, (old 3 (by omega)).2.2.1, (old 6 (by omega)).2.2.1, (old 7 (by omega)).2.2.1, (old 4 (by omega)).2.2.1, (old 5 (by omega)).2.2.1]
      exact L.2.2.2.2
  have r2 : gR H' (mN H) 2 = mN H + 1 := by rw [RT]; rfl
  have r3 : gR H' (mN H) 3 = mN H + 2 := by rw [RT]; rfl
  have r4 : gR H' (mN H) 4 = mN H + 3 := by rw [RT]; rfl
  refine ⟨H', ec, LH, Fr', W', E, ⟨MM, by omega⟩, fun a ha => ⟨by rw [II, (old a (by omega)).2.2.1], by rw [LL, (old a (by omega)).2.1], by rw [RO a (by omega), (old a (by omega)).2.2.2]⟩, ⟨by rw [KK]; exact kT, by omega, ?_, ?_⟩, ?_, fun i hi => ?_⟩
  · rw [show gR H' (mN H) 0 = lt by rw [RT]; rfl, elt]; exact lwO_ext Fr h84 E C5
  · rw [show gR H' (mN H) 1 = ls by rw [RT]; rfl, els]; exact lwO_ext Fr h84 E C6
  · rw [r2, r3, r4]
    exact ⟨⟨by rw [KK]; exact c1.1, by rw [LL]; exact c1.2.1, by omega, nst _ (by omega)⟩, ⟨by rw [KK]; exact c2.1, by rw [LL]; exact c2.2.1, by omega, nst _ (by omega)⟩, ⟨by rw [KK]; exact c3.1, by rw [LL]; exact c3.2.1, by omega, nst _ (by omega)⟩⟩
  · rw [r2, r3, r4, II, II, II, c1.2.2, c2.2.2, c3.2.2, ga1 i hi, gb1 i hi, gc1 i hi, (s1 56 (by omega)).2.2.1, (s2 57 (by omega)).2.2.1, (s1 57 (by omega)).2.2.1, (s3 58 (by omega)).2.2.1, (s2 58 (by omega)).2.2.1, (s1 58 (by omega)).2.2.1]
    exact C4 i hi
