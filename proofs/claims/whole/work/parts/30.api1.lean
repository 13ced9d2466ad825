--deps:19.lay 21.facts 22.00.names 22.01.eq 22.02.eq 22.03.eq 22.04.eq 22.05.eq 22.06.eq 22.07.eq 22.08.eq 22.09.eq 22.10.eq 22.11.eq 22.12.eq 22.13.eq 22.14.eq 22.15.eq 22.16.eq 22.17.eq 22.18.eq 22.19.eq 22.20.eq 22.21.eq 22.22.eq 22.23.eq 23.num 24.town 25.evc 26.evm 27.law 28.says 29.inv
/-! QUESTIONS, the plainest -/
set_option linter.unusedSectionVars false
/-- an argument in a range: it is a natural number -/
theorem in_cases {a : Int32} {N : Nat} (hN : N < 2 ^ 30) : (bI (0 ≤ a ∧ a ≤ nI N - 1) = 0 ∧ ¬ ib a N) ∨ ∃ j, j < N ∧ a = nI j ∧ bI (0 ≤ a ∧ a ≤ nI N - 1) = 1 := by
  by_cases h : ib a N
  · obtain ⟨j, hj, e⟩ := ib_at h (by omega)
    exact Or.inr ⟨j, hj, e, by rw [bI_pos ((ib_iff hN).mpr h)]⟩
  · exact Or.inl ⟨by rw [bI_neg (fun q => h ((ib_iff hN).mp q))], h⟩
theorem ib_cases {a : Int32} {N : Nat} (hN : N < 2 ^ 30) : (bI (ib a N) = 0 ∧ ¬ ib a N) ∨ ∃ j, j < N ∧ a = nI j ∧ bI (ib a N) = 1 := by
  by_cases h : ib a N
  · obtain ⟨j, hj, e⟩ := ib_at h (by omega)
    exact Or.inr ⟨j, hj, e, by rw [bI_pos h]⟩
  · exact Or.inl ⟨bI_neg h, h⟩
theorem i10 : ¬ (1 : Int32) = 0 := by decide
theorem txM_sm {Z : List Nat} {h h' : MH} (s : sm Z h h') (h70 : ¬ 70 ∈ Z) {tx : Nat} {dt ds : Option Den} (w : txM h tx dt ds) : txM h' tx dt ds := by
  have e70 : gI h' 70 = gI h 70 := sm_gI s h70 (by omega)
  obtain ⟨cnt, h1, h2, h3, h4⟩ := w
  exact ⟨cnt, h1, by rw [e70]; exact h2, lwMO_eq e70 h3, lwMO_eq e70 h4⟩
theorem rlM_sm' {Z : List Nat} {h h' : MH} (s : sm Z h h') (h70 : ¬ 70 ∈ Z) {x : Int32} {dt ds : Option Den} (w : rlM h x dt ds) : rlM h' x dt ds := w.imp id (fun ⟨tx, h1, h2, h3⟩ => ⟨tx, h1, h2, txM_sm s h70 h3⟩)
theorem rlM_sm {h h' : MH} (s : sm SCR h h') {dt ds : Option Den} (w : rlM h (gI h 68 3) dt ds) : rlM h' (gI h' 68 3) dt ds := by
  rw [sm_gI s (a := 68) (by decide) (by decide)]
  exact rlM_sm' s (by decide) w
section API
theorem A_about {c : Nat} {h : MH} (I : INV c h) (d : Nat) (a : Int32) : AGI c (F_X10_about (d + 2) a) (F_X11_about (d + 2) a) h := by
  have L := I.1
  obtain ⟨_, ⟨n, W, P, SN, H, X, wr, tn, N, K⟩, M, R⟩ := id I
  obtain ⟨⟨q1, q2, q3, q4, ⟨hn, HW, HG, q5⟩, q6, ⟨sc, q7⟩, ⟨fst, cnt, pk, q8⟩⟩, qT⟩ := N
  obtain ⟨⟨len, m0, m1, m2⟩, -⟩ := M
  have hru : gI h 9 5 = gI h 68 3 := by
    rcases q6.2.2.2 with ⟨e1, e2, -⟩ | ⟨t, -, e1, e2, -⟩ <;> rw [e1, e2]
  have key : ∃ v, F_X10_about (d + 2) a h = some (.int v, h) ∧ F_X11_about (d + 2) a h = some (.int v, h) := by
    rw [S_X10_about L (d + 1), S_X11_about L (d + 1), m_isIn L, cI_some]
    by_cases h0 : a = 0
    · subst h0
      rw [bI_pos (by decide), if_neg i10, if_pos rfl, ck_pos (ib_lit (i := 0) (n := 0) rfl (by decide) (by decide)), ix_lit (i := 0) (n := 0) rfl (by decide), q1.2.2.1]
      exact ⟨nI n, congrArg (fun v => some (Value.int v, h)) q1.2.1, rfl⟩
    rw [if_neg h0]
    by_cases h1 : a = 1
    · subst h1
      rw [bI_pos (by decide), if_neg i10, if_pos rfl, ck_pos (ib_lit (i := 1) (n := 1) rfl (by decide) (by decide)), ix_lit (i := 1) (n := 1) rfl (by decide), q5.2.2.1]
      exact ⟨nI hn, congrArg (fun v => some (Value.int v, h)) q5.2.1, rfl⟩
    rw [if_neg h1]
    by_cases h2 : a = 2
    · subst h2
      rw [bI_pos (by decide), if_neg i10, if_pos rfl, ck_pos (ib_lit (i := 2) (n := 2) rfl (by decide) (by decide)), ix_lit (i := 2) (n := 2) rfl (by decide), q6.2.2.1]
      exact ⟨nI tn, congrArg (fun v => some (Value.int v, h)) q6.2.1, rfl⟩
    rw [if_neg h2]
    by_cases h3 : a = 3
    · subst h3
      rw [bI_pos (by decide), if_neg i10, if_pos rfl, ck_pos (ib_lit (i := 3) (n := 3) rfl (by decide) (by decide)), ix_lit (i := 3) (n := 3) rfl (by decide), hru]
      exact ⟨_, rfl, rfl⟩
    rw [if_neg h3]
    by_cases h4 : a = 4
    · subst h4
      rw [bI_pos (by decide), if_neg i10, if_pos rfl, ck_pos (ib_lit (i := 4) (n := 4) rfl (by decide) (by decide)), ix_lit (i := 4) (n := 4) rfl (by decide), q8.1.2.2.2.2]
      exact ⟨nI cnt, congrArg (fun v => some (Value.int v, h)) q8.1.2.2.2.1, rfl⟩
    rw [if_neg h4]
    by_cases h5 : a = 5
    · subst h5
      rw [bI_pos (by decide), if_neg i10, if_pos rfl, ck_pos (ib_lit (i := 5) (n := 5) rfl (by decide) (by decide)), ix_lit (i := 5) (n := 5) rfl (by decide), q7.2.2.1]
      exact ⟨nI sc, congrArg (fun v => some (Value.int v, h)) q7.2.1, rfl⟩
    rw [if_neg h5]
    have e : bI (0 ≤ a ∧ a ≤ 5) = 0 := by
      rcases in_cases (a := a) (N := 6) (by omega) with ⟨e, -⟩ | ⟨j, hj, ej, -⟩
      · exact e
      · match j, hj with
        | 0, _ => exact absurd ej h0
        | 1, _ => exact absurd ej h1
        | 2, _ => exact absurd ej h2
        | 3, _ => exact absurd ej h3
        | 4, _ => exact absurd ej h4
        | 5, _ => exact absurd ej h5
    rw [e, if_pos rfl, m1, m2]
    by_cases h6 : a = 6
    · rw [if_pos h6]
      exact ⟨_, rfl, rfl⟩
    · rw [if_neg h6]
      exact ⟨_, rfl, rfl⟩
  obtain ⟨v, e1, e2⟩ := key
  exact ⟨v, h, h, e1, e2, I⟩
theorem A_fault {c : Nat} {h : MH} (I : INV c h) (d : Nat) (a : Int32) : AGI c (F_X10_fault (d + 1) a) (F_X11_fault (d + 1) a) h := by
  have L := I.1
  obtain ⟨_, _, ⟨-, -, m3, m4, -⟩, R⟩ := id I
  by_cases h0 : a = 0
  · refine ⟨gI h 67 5, h, h, ?_, ?_, I⟩
    · rw [S_X10_fault L d, if_pos h0, m3]
    · rw [S_X11_fault L d, if_pos h0]
  by_cases h1 : a = 1
  · refine ⟨gI h 67 6, h, h, ?_, ?_, I⟩
    · rw [S_X10_fault L d, if_neg h0, if_pos h1, m4]
    · rw [S_X11_fault L d, if_neg h0, if_pos h1]
  refine ⟨-1, h, h, ?_, ?_, I⟩
  · rw [S_X10_fault L d, if_neg h0, if_neg h1]
  · rw [S_X11_fault L d, if_neg h0, if_neg h1]
theorem A_is {c : Nat} {h : MH} (I : INV c h) (d : Nat) (a : Int32) : AGI c (F_X10_is (d + 9) a) (F_X11_is (d + 9) a) h := by
  have L := I.1
  obtain ⟨_, ⟨n, W, P, SN, H, X, wr, tn, N, K⟩, M, R⟩ := id I
  have t := NOW_t N
  have m := NOW_m N
  have h4 : 2 ^ n ≤ 2 ^ 4 := Nat.pow_le_pow_right (by decide) t.1
  obtain ⟨⟨u1, u2, u3⟩, ⟨v1, v2, v3⟩, -⟩ := N.1.2.1
  obtain ⟨dt, ds, rc, rm⟩ := NOW_rl N
  by_cases h0 : a = 0
  · subst h0
    refine ⟨nI H, h, h, ?_, ?_, I⟩
    · rw [S_X10_is L (d + 8), if_pos rfl]; exact congrArg (fun v => some (Value.int v, h)) u1
    · rw [S_X11_is L (d + 8), m_isIn L, cI_some, bI_pos (by decide), if_neg i10, ck_pos (ib_lit (i := 6 + 0) (n := 6) rfl (by decide) (by decide)), ix_lit (i := 6 + 0) (n := 6) rfl (by decide), u2]
  by_cases h1 : a = 1
  · subst h1
    refine ⟨nI X, h, h, ?_, ?_, I⟩
    · rw [S_X10_is L (d + 8), if_neg (by decide), if_pos rfl]; exact congrArg (fun v => some (Value.int v, h)) v1
    · rw [S_X11_is L (d + 8), m_isIn L, cI_some, bI_pos (by decide), if_neg i10, ck_pos (ib_lit (i := 6 + 1) (n := 7) rfl (by decide) (by decide)), ix_lit (i := 6 + 1) (n := 7) rfl (by decide), v2]
  have e : bI (0 ≤ a ∧ a ≤ 1) = 0 := by
    rcases in_cases (a := a) (N := 2) (by omega) with ⟨e, -⟩ | ⟨j, hj, ej, -⟩
    · exact e
    · match j, hj with
      | 0, _ => exact absurd ej h0
      | 1, _ => exact absurd ej h1
  have ex : ∀ {k : MH}, lay k → F_X11_is (d + 9) a k = (if a = 2 then cI (F_X11_tipNow (d + 8) k) (fun x4 h3 => some (.int x4, h3)) else (if a = 3 then cI (F_X11_tipsNow (d + 8) k) (fun x6 h5 => some (.int x6, h5)) else (if a = 4 then cI (F_X11_everyone (d + 8) k) (fun x8 h7 => cI (F_X11_weightOf (d + 8) x8 h7) (fun x10 h9 => cI (F_X11_allSnow (d + 8) h9) (fun x12 h11 => some (.int (x10 + x12), h11)))) else some (.int (-1000), k)))) := by
    intro k Lk
    rw [S_X11_is Lk (d + 8), m_isIn Lk, cI_some, e, if_pos rfl]
  by_cases h2 : a = 2
  · refine ⟨zI (tipZ n W P SN), h, h, ?_, ?_, I⟩
    · rw [S_X10_is L (d + 8), if_neg h0, if_neg h1, if_pos h2, c_tipNow L (d + 7) tAt10 t, cI_some]
    · show F_X11_is (d + 9) a h = _
      rw [ex L, if_pos h2, m_tipNow L (d + 5) m, cI_some]
  by_cases h3 : a = 3
  · obtain ⟨g1, e1, s1⟩ := c_tipsNow L (d + 5) tAt10 t u1 u3 rc
    have s1' : sm SCR h g1 := sm_mono s1 (by decide)
    have L1 : lay g1 := lay_call (d + 8) 145 [.ref 10] h _ g1 rfl e1 L
    have N1 := NOW_sm s1' N
    obtain ⟨g2, e2, s2⟩ := m_tipsNow L1 d (NOW_m N1) (NOW_H N1).2.1 u3 (dt := dt) (ds := ds) (rlM_sm s1' rm)
    have s2' : sm SCR g1 g2 := sm_mono s2 (by decide)
    have L2 : lay g2 := lay_call (d + 8) 172 [.ref 67] g1 _ g2 rfl e2 L1
    refine ⟨nI (tpsN dt (nmZ n W P SN H none) (ldZ n W P SN)), g1, g2, ?_, ?_, INV_sm s2' L2 (INV_sm s1' L1 I)⟩
    · rw [S_X10_is L (d + 8), if_neg h0, if_neg h1, if_neg h2, if_pos h3, e1, cI_some]
    · show F_X11_is (d + 9) a g1 = _
      rw [ex L1, if_neg h2, if_pos h3, e2, cI_some]
  by_cases h5 : a = 4
  · refine ⟨nI (sumN W n + sumN SN 9), h, h, ?_, ?_, I⟩
    · rw [S_X10_is L (d + 8), if_neg h0, if_neg h1, if_neg h2, if_neg h3, if_pos h5, c_weightOfAll L (d + 7) tAt10 t, cI_some]
    · show F_X11_is (d + 9) a h = _
      rw [ex L, if_neg h2, if_neg h3, if_pos h5, m_everyone L (d + 7) m, cI_some, m_weightOf L (d + 6) m (by omega), cI_some, m_allSnow L (d + 7) m, cI_some, nI_add]
      congr 4
      refine congrArg (· + sumN SN 9) (sumN_congr fun i hi => ?_)
      rw [bit_pow (by have := t.1; omega)]
      simp [hi]
  · refine ⟨-1000, h, h, ?_, ?_, I⟩
    · rw [S_X10_is L (d + 8), if_neg h0, if_neg h1, if_neg h2, if_neg h3, if_neg h5]
    · show F_X11_is (d + 9) a h = _
      rw [ex L, if_neg h2, if_neg h3, if_neg h5]
end API
