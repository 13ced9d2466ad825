--deps:19.lay 21.facts 22.00.names 22.01.eq 22.02.eq 22.03.eq 22.04.eq 22.05.eq 22.06.eq 22.07.eq 22.08.eq 22.09.eq 22.10.eq 22.11.eq 22.12.eq 22.13.eq 22.14.eq 22.15.eq 22.16.eq 22.17.eq 22.18.eq 22.19.eq 22.20.eq 22.21.eq 22.22.eq 22.23.eq 23.num 24.town 25.evc 26.evm 27.law 28.says 29.inv 36.deeds 37.hours 66.script 71.yard 72.yard2 73.gx 74.gx2 75.gx3 76.reader 77.read2 78.read3 89.nums
/-! THE CLASS KEEPS A LAW: new cells; what is kept over them -/
set_option linter.unusedSectionVars false
/-- what was from 84 on is as it was; a new law's stack is new -/
def EXT (h H : MH) : Prop := (∀ a, 84 ≤ a → a < mN h → kd H a = kd h a ∧ ln H a = ln h a ∧ gI H a = gI h a ∧ gR H a = gR h a) ∧ (∀ l, mN h ≤ l → kd H l = 4 → mN h ≤ gR H l 1) ∧ mN h ≤ mN H
theorem EXT_refl {h : MH} (F : frs h) : EXT h h := ⟨fun _ _ _ => ⟨rfl, rfl, rfl, rfl⟩, ⟨fun l hl hk => (by rw [F l hl] at hk; cases hk), Nat.le_refl _⟩⟩
theorem EXT_tr {h H H2 : MH} (a : EXT h H) (b : EXT H H2) (h84 : 84 ≤ mN h) : EXT h H2 := by
  refine ⟨fun x h1 h2 => ?_, fun l hl hk => ?_, Nat.le_trans a.2.2 b.2.2⟩
  · obtain ⟨p1, p2, p3, p4⟩ := a.1 x h1 h2
    obtain ⟨q1, q2, q3, q4⟩ := b.1 x h1 (Nat.lt_of_lt_of_le h2 a.2.2)
    exact ⟨q1.trans p1, q2.trans p2, q3.trans p3, q4.trans p4⟩
  · rcases Nat.lt_or_ge l (mN H) with c | c
    · obtain ⟨q1, q2, q3, q4⟩ := b.1 l (by omega) c
      rw [q4]
      exact a.2.1 l hl (q1 ▸ hk)
    · exact Nat.le_trans a.2.2 (b.2.1 l c hk)
theorem kd_lt {h : MH} (F : frs h) {a k : Nat} (hk : kd h a = k) (h0 : ¬ k = 0) : a < mN h := by
  rcases Nat.lt_or_ge a (mN h) with c | c
  · exact c
  · rw [F a c] at hk
    exact absurd hk.symm h0
theorem stk_ext {h H : MH} (E : EXT h H) {a : Nat} (ha : a < mN h) (q : stk H a) (h84 : 84 ≤ mN h) : stk h a := by
  obtain ⟨q1, l, q2, q3, q4⟩ := q
  rcases Nat.lt_or_ge l (mN h) with c | c
  · obtain ⟨p1, p2, p3, p4⟩ := E.1 l q2 c
    exact ⟨q1, l, q2, p1 ▸ q3, by rw [← p4]; exact q4⟩
  · have := E.2.1 l c q3
    omega
theorem lwC_ext {h H : MH} (F : frs h) (h84 : 84 ≤ mN h) (E : EXT h H) {l : Nat} {v : Den} (w : lwC h l v) : lwC H l v := by
  obtain ⟨cc, st, len, need, ⟨a1, a2, a3, a4, a5, a6, a7, a8, a9, a10⟩, b1, b2, b3, b4, b5, b6⟩ := w
  have l1 := kd_lt F a1 (by decide)
  have l2 := kd_lt F a4 (by decide)
  have l3 := kd_lt F a6 (by decide)
  obtain ⟨p1, p2, p3, p4⟩ := E.1 l b1 l1
  obtain ⟨q1, q2, q3, q4⟩ := E.1 cc b2 l2
  obtain ⟨r1, r2, r3, r4⟩ := E.1 st a9 l3
  refine ⟨cc, st, len, need, ⟨p1.trans a1, by rw [p4]; exact a2, by rw [p4]; exact a3, q1.trans a4, q2.trans a5, r1.trans a6, r2.trans a7, a8, a9, a10⟩, b1, b2, fun z => b3 (stk_ext E l2 z h84), ?_, b5, b6⟩
  rw [q3]
  exact b4
theorem lwO_ext {h H : MH} (F : frs h) (h84 : 84 ≤ mN h) (E : EXT h H) {l : Nat} {o : Option Den} (w : lwO h l o) : lwO H l o := by
  cases o with
  | none => exact w
  | some v => exact lwC_ext F h84 E w
/-- a copy of the first n -/
theorem s_copy {h : MH} {D a n : Nat} (hD : 1 ≤ D) (ha : kd h a = 20) (hl : a < mN h) (hn : n ≤ ln h a) (h1 : ln h a ≤ 1000) : ∃ g', (∀ j, j < n → g' j = gI h a j) ∧ mE mtab D 88 [.ref a, .int (nI n)] h = some (.ref (mN h), rI (mA h 20 n) (mN h) g') := by
  obtain ⟨d, rfl⟩ : ∃ d, D = d + 1 := ⟨D - 1, by omega⟩
  rw [D_J7_copyOf_59c91, ha, ck_pos (by decide)]
  have k2 : ∀ m, kd (mA h 20 m) a = 20 := fun m => by rw [kd_mA, if_neg (by omega)]; exact ha
  have l2 : ∀ m, ln (mA h 20 m) a = ln h a := fun m => by rw [ln_mA, if_neg (by omega)]
  have k3 : ∀ m, kd (mA h 20 m) (mN h) = 20 := fun m => by rw [kd_mA, if_pos rfl]
  have l3 : ∀ m, ln (mA h 20 m) (mN h) = m := fun m => by rw [ln_mA, if_pos rfl]
  by_cases c : n = ln h a
  · refine ⟨gI h a, fun _ _ => rfl, ?_⟩
    rw [if_pos (by rw [c]), ck_pos rfl, lt_def, ck_pos (show kd (rI (mA h 20 (ln h a)) (mN h) (gI h a)) (mN h) = 20 from k3 _), c]
  · have hj : jmin (nI (ln h a)) (nI n) = nI n := by rw [jmin_n (by omega) (by omega)]; congr 1; omega
    refine ⟨va_cpy (gI h a) (gI (mA h 20 n) (mN h)) 0 0 n, fun j hj => ?_, ?_⟩
    · rw [pk_cpy_in (by omega) (by omega)]; congr 1; omega
    · rw [if_neg (by rw [nI_eq (by omega) (by omega)]; exact c), ix_nI (by omega), ck_pos ⟨nIz (by omega), by omega⟩, lt_def, lt_def, k2, k3, l2, l3, ck_pos (by decide), hj, ix_nI (by omega), show ix (0 : Int32) = 0 from rfl, ck_pos ⟨rfl, rfl, by decide, by decide, nIz (by omega), by omega, by omega⟩, lt_def, gI_mA, if_neg (by omega)]
/-- the heap behind a law kept in slot k of the reader -/
theorem c_keep {H : MH} (L : lay H) (F : frs H) (W : LWF H) {D n : Nat} (hD : 2 ≤ D) (hn : n ≤ 300) (e7 : gI H 55 7 = nI n) {w k : Nat} (hw : w = 300 ∧ k = 9 ∨ w = 301 ∧ k = 10) : ∃ H', F_X4_keepLaw D (nI w) H = some (.int 0, H') ∧ lay H' ∧ frs H' ∧ LWF H' ∧ EXT H H' ∧ (mN H' = mN H + 3 ∧ mS H' = mS H + 2 + n + 64) ∧ (∀ a, a < 84 → gI H' a = gI H a ∧ ln H' a = ln H a ∧ (∀ j, ¬ (a = 55 ∧ j = k) → gR H' a j = gR H a j)) ∧ gR H' 55 k = mN H ∧ ∃ g', (∀ j, j < n → g' j = gI H 59 j) ∧ gI H' (mN H + 1) = g' ∧ lawAt H' (mN H) (mN H + 1) (mN H + 2) n ∧ ¬ stk H' (mN H + 1) := by
  obtain ⟨d, rfl⟩ : ∃ d, D = d + 2 := ⟨D - 2, by omega⟩
  have h84 := L.1
  have k59 : kd H 59 = 20 := L.2.1 59 (by decide)
  have l59 : ln H 59 = 300 := L.2.2.1 59 (by decide) (by decide)
  have e59 : gI (mA H 4 2) 59 = gI H 59 := by rw [gI_mA, if_neg (by omega)]
  obtain ⟨g', g1, g2⟩ := s_copy (h := mA H 4 2) (D := d + 1) (a := 59) (n := n) (by omega) (by rw [kd_mA, if_neg (by omega)]; exact k59) (by rw [mN_mA]; omega) (by rw [ln_mA, if_neg (by omega)]; omega) (by rw [ln_mA, if_neg (by omega)]; omega)
  rw [mN_mA] at g2
  have e57 : gI (mA H 4 2) 55 7 = nI n := by rw [gI_mA, if_neg (by omega)]; exact e7
  obtain ⟨h2, eh2⟩ : ∃ h2, h2 = rI (mA (mA H 4 2) 20 n) (mN H + 1) g' := ⟨_, rfl⟩
  have m2 : mN h2 = mN H + 2 := by rw [eh2]; rfl
  have K2 : ∀ a, kd h2 a = if a = mN H + 1 then 20 else if a = mN H then 4 else kd H a := fun a => by
    rw [eh2]; show kd (mA (mA H 4 2) 20 n) a = _; rw [kd_mA, kd_mA, mN_mA]
  have N2 : ∀ a, ln h2 a = if a = mN H + 1 then n else if a = mN H then 2 else ln H a := fun a => by
    rw [eh2]; show ln (mA (mA H 4 2) 20 n) a = _; rw [ln_mA, ln_mA, mN_mA]
  obtain ⟨h3, eh3⟩ : ∃ h3, h3 = mA h2 20 64 := ⟨_, rfl⟩
  obtain ⟨H', eH'⟩ : ∃ H', H' = sR (sR (sR h3 (mN H) 1 (mN H + 2)) (mN H) 0 (mN H + 1)) 55 k (mN H) := ⟨_, rfl⟩
  have K3 : ∀ a, kd H' a = if a = mN H + 2 then 20 else if a = mN H + 1 then 20 else if a = mN H then 4 else kd H a := fun a => by
    rw [eH']; show kd h3 a = _; rw [eh3, kd_mA, m2, K2]
  have N3 : ∀ a, ln H' a = if a = mN H + 2 then 64 else if a = mN H + 1 then n else if a = mN H then 2 else ln H a := fun a => by
    rw [eH']; show ln h3 a = _; rw [eh3, ln_mA, m2, N2]
  have I3 : ∀ a, gI H' a = if a = mN H + 2 then (fun _ => 0) else if a = mN H + 1 then g' else if a = mN H then (fun _ => 0) else gI H a := fun a => by
    rw [eH']; show gI h3 a = _; rw [eh3, gI_mA, m2, eh2, gI_rI, gI_mA, gI_mA, mN_mA]
    by_cases c1 : a = mN H + 2
    · rw [if_pos c1, if_pos c1]
    · rw [if_neg c1, if_neg c1]
      by_cases c2 : a = mN H + 1
      · rw [if_pos c2, if_pos c2]
      · rw [if_neg c2, if_neg c2, if_neg c2]
  have R3 : ∀ a, gR h3 a = if a = mN H + 2 then (fun _ => 0) else if a = mN H + 1 then (fun _ => 0) else if a = mN H then (fun _ => 0) else gR H a := fun a => by
    rw [eh3, gR_mA, m2, eh2]; show (if a = mN H + 2 then _ else gR (mA (mA H 4 2) 20 n) a) = _; rw [gR_mA, gR_mA, mN_mA]
  have RR : ∀ a, gR H' a = if a = 55 then va_up (gR H 55) k (mN H) else if a = mN H then va_up (va_up (gR h3 (mN H)) 1 (mN H + 2)) 0 (mN H + 1) else gR h3 a := fun a => by
    have r0 : ∀ (h : MH) (b j v c : Nat), gR (sR h b j v) c = if c = b then va_up (gR h b) j v else gR h c := fun h b j v c => rfl
    rw [eH', r0]
    by_cases c1 : a = 55
    · rw [if_pos c1, if_pos c1, r0, if_neg (by omega), r0, if_neg (by omega), R3, if_neg (by omega), if_neg (by omega), if_neg (by omega)]
    · rw [if_neg c1, if_neg c1, r0]
      by_cases c2 : a = mN H
      · rw [if_pos c2, if_pos c2, r0, if_pos rfl]
      · rw [if_neg c2, if_neg c2, r0, if_neg c2]
  have mH : mN H' = mN H + 3 := by rw [eH']; show mN h3 = _; rw [eh3, mN_mA, m2]
  have sH : mS H' = mS H + 2 + n + 64 := by rw [eH']; show mS h3 = _; rw [eh3, mS_mA, eh2]; show mS (mA (mA H 4 2) 20 n) + 64 = _; rw [mS_mA, mS_mA]
  have Lw : F_X4_keepLaw (d + 2) (nI w) H = some (.int 0, H') := by
    have e89 : mE mtab (d + 1) 89 [.ref (mN H), .ref (mN H + 1)] h2 = some (.int 0, sR (sR h3 (mN H) 1 (mN H + 2)) (mN H) 0 (mN H + 1)) := by
      have q1 : kd (mA h2 20 64) (mN H) = 4 := by rw [kd_mA, m2, if_neg (by omega), K2, if_neg (by omega), if_pos rfl]
      rw [D_X3_init, ck_pos (by omega), ck_pos (by decide), show ix (64 : Int32) = 64 from rfl, lt_def, ck_pos q1, lt_def, ck_pos (show kd (sR (mA h2 20 64) (mN H) 1 (mN h2)) (mN H) = 4 from q1), lt_def, m2, ← eh3]
    have q2 : kd h2 (mN H) = 4 := by rw [K2, if_neg (by omega), if_pos rfl]
    rw [S_X4_keepLaw L]
    rcases hw with ⟨rfl, rfl⟩ | ⟨rfl, rfl⟩
    · rw [if_pos (by decide), lt_def, e57, g2, cR_some, ← eh2, ck_pos q2, e89, cV_some, lt_def, eH']
    · rw [if_neg (by decide), if_pos (by decide), lt_def, e57, g2, cR_some, ← eh2, ck_pos q2, e89, cV_some, lt_def, eH']
  have o4 : ∀ l, kd H' l = 4 → l = mN H ∨ (kd H l = 4 ∧ ¬ l = mN H) := fun l hl => by
    rw [K3] at hl
    by_cases c1 : l = mN H + 2
    · rw [if_pos c1] at hl; cases hl
    · rw [if_neg c1] at hl
      by_cases c2 : l = mN H + 1
      · rw [if_pos c2] at hl; cases hl
      · rw [if_neg c2] at hl
        by_cases c3 : l = mN H
        · exact Or.inl c3
        · rw [if_neg c3] at hl
          exact Or.inr ⟨hl, c3⟩
  have E : EXT H H' := by
    refine ⟨fun a h1 h2 => ⟨?_, ?_, ?_, ?_⟩, fun l hl hk => ?_, by omega⟩
    · rw [K3, if_neg (by omega), if_neg (by omega), if_neg (by omega)]
    · rw [N3, if_neg (by omega), if_neg (by omega), if_neg (by omega)]
    · rw [I3, if_neg (by omega), if_neg (by omega), if_neg (by omega)]
    · rw [RR, if_neg (by omega), if_neg (by omega), R3, if_neg (by omega), if_neg (by omega), if_neg (by omega)]
    · rcases o4 l hk with c | ⟨c, c2⟩
      · rw [RR, if_neg (by omega), if_pos c, va_ne _ _ (by decide), va_same]; omega
      · have := kd_lt F c (by decide)
        omega
  have LH : lay H' := lay_F (d := d + 2) (i := 90) Lw L rfl
  have rl : ∀ l, kd H l = 4 → ¬ l = mN H → gR H' l = gR H l := fun l hl hn => by
    have := kd_lt F hl (by decide)
    have n55 : ¬ l = 55 := fun z => by
      rw [z, L.2.1 55 (by decide)] at hl
      exact absurd hl (by decide)
    rw [RR, if_neg n55, if_neg hn, R3, if_neg (by omega), if_neg (by omega), if_neg (by omega)]
  refine ⟨H', Lw, LH, fun a ha => ?_, fun l hl => ?_, E, ⟨mH, sH⟩, fun a ha => ⟨?_, ?_, fun j hj => ?_⟩, ?_, g', fun j hj => by rw [g1 j hj, e59], ?_, ⟨?_, ?_, ?_, ?_, ?_, ?_, ?_, by omega, by omega, hn⟩, ?_⟩
  · rw [K3, if_neg (by omega), if_neg (by omega), if_neg (by omega)]
    exact F a (by omega)
  · rcases o4 l hl with c | ⟨c, c2⟩
    · refine Or.inr ?_
      rw [RR, if_neg (by omega), if_pos c, va_ne _ _ (by decide), va_same, K3, if_pos rfl]
      decide
    · rw [rl l c c2]
      rcases W l c with q | q
      · exact Or.inl q
      · refine Or.inr ?_
        have := kd_lt F rfl q
        rw [K3, if_neg (by omega), if_neg (by omega), if_neg (by omega)]
        exact q
  · rw [I3, if_neg (by omega), if_neg (by omega), if_neg (by omega)]
  · rw [N3, if_neg (by omega), if_neg (by omega), if_neg (by omega)]
  · rw [RR]
    by_cases c : a = 55
    · rw [if_pos c, va_ne _ _ (fun z => hj ⟨c, z⟩), c]
    · rw [if_neg c, if_neg (by omega), R3, if_neg (by omega), if_neg (by omega), if_neg (by omega)]
  · rw [RR, if_pos rfl, va_same]
  · rw [I3, if_neg (by omega), if_pos rfl]
  · rw [K3, if_neg (by omega), if_neg (by omega), if_pos rfl]
  · rw [RR, if_neg (by omega), if_pos rfl, va_same]
  · rw [RR, if_neg (by omega), if_pos rfl, va_ne _ _ (by decide), va_same]
  · rw [K3, if_neg (by omega), if_pos rfl]
  · rw [N3, if_neg (by omega), if_pos rfl]
  · rw [K3, if_pos rfl]
  · rw [N3, if_pos rfl]
  · rintro ⟨q1, l, q2, q3, q4⟩
    rcases o4 l q3 with c | ⟨c, c2⟩
    · rw [RR, if_neg (by omega), if_pos c, va_ne _ _ (by decide), va_same] at q4
      omega
    · rw [rl l c c2] at q4
      rcases W l c with q | q
      · omega
      · rw [q4, F _ (by omega)] at q
        exact q rfl
