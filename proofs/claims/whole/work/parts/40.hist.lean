--deps:19.lay 21.facts 22.00.names 22.01.eq 22.02.eq 22.03.eq 22.04.eq 22.05.eq 22.06.eq 22.07.eq 22.08.eq 22.09.eq 22.10.eq 22.11.eq 22.12.eq 22.13.eq 22.14.eq 22.15.eq 22.16.eq 22.17.eq 22.18.eq 22.19.eq 22.20.eq 22.21.eq 22.22.eq 22.23.eq 23.num 24.town 25.evc 26.evm 27.law 28.says 29.inv 30.api1 31.copy 32.api2 33.api3 34.api4 35.api5 36.deeds 37.hours 38.mdeeds 39.mhours
/-! STEPS KEPT: pure, the class's, the reference's -/
set_option linter.unusedSectionVars false
theorem mrt0 : mrt 1 0 := Or.inl rfl
theorem mrt1 : mrt 1 1 := Or.inr rfl
/-- how many, and their rows -/
abbrev HS : Type := Nat × (Nat → Nat → Int32)
def pushR (q : HS) (row : Nat → Int32) : HS := if q.1 < 30 then (q.1 + 1, va_up q.2 q.1 row) else (30, fun k => if k = 29 then row else q.2 (k + 1))
def rowN (n : Nat) (s : TS) : Nat → Int32 := fun j => if j = 0 then nI n else if j = 1 then nI s.2.2.1 else if j = 2 then nI s.2.2.2.1 else if j = 3 then nI s.2.2.2.2.1 else if j < 8 then nI (s.1 (j - 4)) else if j < 17 then nI (s.2.1 (j - 8)) else s.2.2.2.2.2 (j - 17)
def RC (st rw : Nat → Int32) (q : HS) : Prop := ∃ fst, fst < 31 ∧ q.1 ≤ 30 ∧ st 1 = nI fst ∧ st 2 = nI q.1 ∧ ∀ k, k < q.1 → ∀ j, j < 47 → rw ((fst + k) % 31 * 47 + j) = q.2 k j
def RM (a : Nat → Int32) (q : HS) : Prop := q.1 ≤ 30 ∧ a 4 = nI q.1 ∧ ∀ k, k < q.1 → ∀ j, j < 47 → a (58 + 47 * k + j) = q.2 k j
def rowOK (r : Nat → Int32) (m : Nat) : Prop := (∃ H, H ≤ 9999 ∧ r 1 = nI H) ∧ (∃ X, X ≤ 30840 ∧ r 2 = nI X) ∧ (∃ w, w ≤ 30 ∧ r 3 = nI w) ∧ (∀ p, p < 4 → ∃ c, c ≤ 8 ∧ r (4 + p) = nI c ∧ (m ≤ p → c = 0)) ∧ (∀ c, c < 9 → ∃ s, s ≤ 9 ∧ r (8 + c) = nI s)
def HI (n : Nat) (told pl : Nat → Int32) (q : HS) : Prop := ∃ pk : Nat → Nat, (∀ k, k < q.1 → q.2 k 0 = nI (pk k) ∧ pk k ≤ n ∧ rowOK (q.2 k) (pk k)) ∧ (∀ k, k + 1 < q.1 → ∀ p, pk k ≤ p → p < pk (k + 1) → q.2 (k + 1) (4 + p) = told p) ∧ (∀ k, k + 1 = q.1 → ∀ p, pk k ≤ p → p < n → pl p = told p) ∧ (∀ p, p < n → ∃ c, c ≤ 8 ∧ told p = nI c)
theorem R8_to {st rw a : Nat → Int32} {n fst cnt : Nat} {pk : Nat → Nat} (r : R8 st rw a n fst cnt pk) : RC st rw (cnt, fun k j => a (58 + 47 * k + j)) ∧ RM a (cnt, fun k j => a (58 + 47 * k + j)) ∧ HI n (fun p => a (26 + p)) (fun p => a (9 + p)) (cnt, fun k j => a (58 + 47 * k + j)) := by
  obtain ⟨⟨h1, h2, h3, h4, h5⟩, h6, h7, h8, h9, h10⟩ := r
  refine ⟨⟨fst, h1, h2, h3, h4, h6⟩, ⟨h2, h5, fun k hk j hj => rfl⟩, pk, fun k hk => ?_, fun k hk p p1 p2 => ?_, h9, h10⟩
  · obtain ⟨e, l, s1, s2, s3, s4, s5⟩ := h7 k hk
    refine ⟨e, l, s1, s2, s3, fun p hp => ?_, fun c hc => ?_⟩
    · obtain ⟨c, c1, c2, c3⟩ := s4 p hp
      exact ⟨c, c1, by rw [← c2, Nat.add_assoc (58 + 47 * k)], c3⟩
    · obtain ⟨c', c1, c2⟩ := s5 c hc
      exact ⟨c', c1, by rw [← c2, Nat.add_assoc (58 + 47 * k)]⟩
  · exact (congrArg a (Nat.add_assoc (58 + 47 * (k + 1)) 4 p)).symm.trans (h8 k hk p p1 p2)
theorem R8_of {st rw a : Nat → Int32} {n : Nat} (hn : n ≤ 4) {q : HS} (c : RC st rw q) (m : RM a q) (i : HI n (fun p => a (26 + p)) (fun p => a (9 + p)) q) : ∃ fst cnt pk, R8 st rw a n fst cnt pk := by
  obtain ⟨fst, c1, c2, c3, c4, c5⟩ := c
  obtain ⟨m1, m2, m3⟩ := m
  obtain ⟨pk, i1, i2, i3, i4⟩ := i
  refine ⟨fst, q.1, pk, ⟨c1, c2, c3, c4, m2⟩, fun k hk j hj => by rw [c5 k hk j hj, m3 k hk j hj], fun k hk => ?_, fun k hk p p1 p2 => ?_, i3, i4⟩
  · obtain ⟨e, l, s1, s2, s3, s4, s5⟩ := i1 k hk
    have g : ∀ j, j < 47 → a (58 + 47 * k + j) = q.2 k j := m3 k hk
    refine ⟨by rw [← e]; exact g 0 (by omega), l, ?_, ?_, ?_, fun p hp => ?_, fun c hc => ?_⟩
    · rw [g 1 (by omega)]; exact s1
    · rw [g 2 (by omega)]; exact s2
    · rw [g 3 (by omega)]; exact s3
    · obtain ⟨c, c1, c2, c3⟩ := s4 p hp
      exact ⟨c, c1, by rw [← c2, Nat.add_assoc]; exact g (4 + p) (by omega), c3⟩
    · obtain ⟨c', c1, c2⟩ := s5 c hc
      exact ⟨c', c1, by rw [← c2, Nat.add_assoc]; exact g (8 + c) (by omega)⟩
  · have := i2 k hk p p1 p2
    have l : pk (k + 1) ≤ n := (i1 (k + 1) hk).2.1
    refine Eq.trans ?_ this
    rw [Nat.add_assoc]
    exact m3 (k + 1) hk (4 + p) (by omega)
theorem HI_push {n : Nat} {told pl pl' : Nat → Int32} {q : HS} (hq : q.1 ≤ 30) (i : HI n told pl q) {row : Nat → Int32} (r0 : row 0 = nI n) (rk : rowOK row n) (rp : ∀ p, p < n → row (4 + p) = pl p) : HI n told pl' (pushR q row) := by
  obtain ⟨pk, i1, i2, i3, i4⟩ := i
  unfold pushR
  by_cases c : q.1 < 30
  · rw [if_pos c]
    refine ⟨va_up pk q.1 n, fun k hk => ?_, fun k hk p p1 p2 => ?_, fun k hk p p1 p2 => ?_, i4⟩
    · dsimp only at hk ⊢
      by_cases e : k = q.1
      · subst e; rw [up_s, up_s]; exact ⟨r0, Nat.le_refl n, rk⟩
      · rw [up_o _ _ e, up_o _ _ e]; exact i1 k (by omega)
    · dsimp only at hk p1 p2 ⊢
      rw [up_o _ _ (show ¬ k = q.1 by omega)] at p1
      by_cases e : k + 1 = q.1
      · rw [e, up_s] at p2
        rw [e, up_s, rp p p2]
        exact i3 k e p p1 p2
      · rw [up_o _ _ e] at p2 ⊢
        exact i2 k (by omega) p p1 p2
    · dsimp only at hk
      rw [show k = q.1 by omega, up_s] at p1
      omega
  · have e30 : q.1 = 30 := by omega
    rw [if_neg c]
    refine ⟨fun k => if k = 29 then n else pk (k + 1), fun k hk => ?_, fun k hk p p1 p2 => ?_, fun k hk p p1 p2 => ?_, i4⟩
    · dsimp only at hk ⊢
      by_cases e : k = 29
      · rw [if_pos e, if_pos e]; exact ⟨r0, Nat.le_refl n, rk⟩
      · rw [if_neg e, if_neg e]; exact i1 (k + 1) (by omega)
    · dsimp only at hk p1 p2 ⊢
      rw [if_neg (show ¬ k = 29 by omega)] at p1
      by_cases e : k + 1 = 29
      · rw [if_pos e] at p2
        rw [if_pos e, rp p p2]
        exact i3 (k + 1) (by omega) p p1 p2
      · rw [if_neg e] at p2 ⊢
        exact i2 (k + 1) (by omega) p p1 p2
    · dsimp only at hk p1
      rw [if_pos (by omega)] at p1
      omega
theorem HI_congr {n : Nat} {told pl told' pl' : Nat → Int32} {q : HS} (ht : ∀ p, p < n → told' p = told p) (hp : ∀ p, p < n → pl' p = pl p) (i : HI n told pl q) : HI n told' pl' q := by
  obtain ⟨pk, i1, i2, i3, i4⟩ := i
  refine ⟨pk, i1, fun k hk p p1 p2 => ?_, fun k hk p p1 p2 => ?_, fun p hp => by rw [ht p hp]; exact i4 p hp⟩
  · rw [ht p (by have := (i1 (k + 1) hk).2.1; omega)]; exact i2 k hk p p1 p2
  · rw [hp p p2, ht p p2]; exact i3 k hk p p1 p2
theorem rowN_ok {n : Nat} {s : TS} (hP : ∀ p, p < 4 → s.1 p ≤ 8 ∧ (n ≤ p → s.1 p = 0)) (hS : ∀ c, c < 9 → s.2.1 c ≤ 9) (hH : s.2.2.1 ≤ 9999) (hX : s.2.2.2.1 ≤ 30840) (hw : s.2.2.2.2.1 ≤ 30) : rowOK (rowN n s) n := by
  refine ⟨⟨_, hH, rfl⟩, ⟨_, hX, rfl⟩, ⟨_, hw, rfl⟩, fun p hp => ⟨s.1 p, (hP p hp).1, ?_, (hP p hp).2⟩, fun c hc => ⟨s.2.1 c, hS c hc, ?_⟩⟩
  · unfold rowN
    rw [if_neg (by omega), if_neg (by omega), if_neg (by omega), if_neg (by omega), if_pos (by omega), show 4 + p - 4 = p by omega]
  · unfold rowN
    rw [if_neg (by omega), if_neg (by omega), if_neg (by omega), if_neg (by omega), if_neg (by omega), if_pos (by omega), show 8 + c - 8 = c by omega]
theorem rowN_P {n : Nat} {s : TS} {p : Nat} (hp : p < 4) : rowN n s (4 + p) = nI (s.1 p) := by
  unfold rowN
  rw [if_neg (by omega), if_neg (by omega), if_neg (by omega), if_neg (by omega), if_pos (by omega), show 4 + p - 4 = p by omega]
/-- a row laid over a row of ints -/
def markF (f : Nat → Int32) (x : Nat) (a0 a1 a2 a3 : Int32) (P S E : Nat → Int32) : Nat → Int32 := va_cpy E (va_cpy S (va_cpy P (va_up (va_up (va_up (va_up f x a0) (x + 1) a1) (x + 2) a2) (x + 3) a3) 0 (x + 4) 4) 0 (x + 4 + 4) 9) 0 (x + 4 + 4 + 9) 30
theorem markF_out {f : Nat → Int32} {x : Nat} {a0 a1 a2 a3 : Int32} {P S E : Nat → Int32} {k : Nat} (hk : k < x ∨ x + 47 ≤ k) : markF f x a0 a1 a2 a3 P S E k = f k := by
  unfold markF
  rw [pk_cpy_out (by omega), pk_cpy_out (by omega), pk_cpy_out (by omega), up_o _ _ (by omega), up_o _ _ (by omega), up_o _ _ (by omega), up_o _ _ (by omega)]
theorem markF_in {f : Nat → Int32} {x : Nat} {a0 a1 a2 a3 : Int32} {P S E : Nat → Int32} {j : Nat} (hj : j < 47) : markF f x a0 a1 a2 a3 P S E (x + j) = if j = 0 then a0 else if j = 1 then a1 else if j = 2 then a2 else if j = 3 then a3 else if j < 8 then P (j - 4) else if j < 17 then S (j - 8) else E (j - 17) := by
  unfold markF
  by_cases c0 : j = 0
  · subst c0
    rw [if_pos rfl, pk_cpy_out (by omega), pk_cpy_out (by omega), pk_cpy_out (by omega), up_o _ _ (by omega), up_o _ _ (by omega), up_o _ _ (by omega)]
    exact up_s _ _ _
  rw [if_neg c0]
  by_cases c1 : j = 1
  · subst c1
    rw [if_pos rfl, pk_cpy_out (by omega), pk_cpy_out (by omega), pk_cpy_out (by omega), up_o _ _ (by omega), up_o _ _ (by omega), up_s]
  rw [if_neg c1]
  by_cases c2 : j = 2
  · subst c2
    rw [if_pos rfl, pk_cpy_out (by omega), pk_cpy_out (by omega), pk_cpy_out (by omega), up_o _ _ (by omega), up_s]
  rw [if_neg c2]
  by_cases c3 : j = 3
  · subst c3
    rw [if_pos rfl, pk_cpy_out (by omega), pk_cpy_out (by omega), pk_cpy_out (by omega), up_s]
  rw [if_neg c3]
  by_cases c4 : j < 8
  · rw [if_pos c4, pk_cpy_out (by omega), pk_cpy_out (by omega), pk_cpy_in (by omega) (by omega)]
    congr 1
    omega
  rw [if_neg c4]
  by_cases c5 : j < 17
  · rw [if_pos c5, pk_cpy_out (by omega), pk_cpy_in (by omega) (by omega)]
    congr 1
    omega
  rw [if_neg c5, pk_cpy_in (by omega) (by omega)]
  congr 1
  omega
/-- the row beyond those kept is marked -/
def MK (h : MH) (q : HS) (row : Nat → Int32) : Prop := q.1 ≤ 30 ∧ ∃ fst, fst < 31 ∧ gI h 17 1 = nI fst ∧ gI h 17 2 = nI q.1 ∧ (∀ k, k < q.1 → ∀ j, j < 47 → gI h 18 ((fst + k) % 31 * 47 + j) = q.2 k j) ∧ (∀ j, j < 47 → gI h 18 ((fst + q.1) % 31 * 47 + j) = row j)
theorem MK_RC {h : MH} {q : HS} {row : Nat → Int32} (m : MK h q row) : RC (gI h 17) (gI h 18) q := by
  obtain ⟨h0, fst, h1, h2, h3, h4, -⟩ := m
  exact ⟨fst, h1, h0, h2, h3, h4⟩
theorem MK_eq {h h' : MH} {q : HS} {row : Nat → Int32} (m : MK h q row) (e1 : gI h' 17 = gI h 17) (e2 : gI h' 18 = gI h 18) : MK h' q row := by
  unfold MK
  rw [e1, e2]
  exact m
/-- ints copied within a row -/
def cpA (a : Nat → Int32) (src dst i : Nat) : Nat → Int32 := fun k => if dst ≤ k ∧ k < dst + i then a (src + (k - dst)) else a k
theorem cpA_0 (a : Nat → Int32) (src dst : Nat) : cpA a src dst 0 = a := by
  funext k
  unfold cpA
  rw [if_neg (by omega)]
theorem cpA_s {a : Nat → Int32} {src dst i : Nat} (hd : dst ≤ src ∨ src + i < dst) : va_up (cpA a src dst i) (dst + i) (cpA a src dst i (src + i)) = cpA a src dst (i + 1) := by
  funext k
  by_cases e : k = dst + i
  · subst e
    rw [up_s]
    unfold cpA
    rw [if_neg (by omega), if_pos (by omega)]
    congr 1
    omega
  · rw [up_o _ _ e]
    unfold cpA
    by_cases c : dst ≤ k ∧ k < dst + i
    · rw [if_pos c, if_pos (by omega)]
    · rw [if_neg c, if_neg (by omega)]
section HIST
theorem c_mark {h : MH} (L : lay h) (d : Nat) {n : Nat} {W : Nat → Nat} {s : TS} (t : CT h 10 n W s) {q : HS} (r : RC (gI h 17) (gI h 18) q) : ∃ f, F_X6_mark (d + 1) h = some (.int 0, rI h 18 f) ∧ MK (rI h 18 f) q (rowN n s) := by
  obtain ⟨fst, r1, r2, r3, r4, r5⟩ := r
  obtain ⟨t0, t1, t2, t3, t4, t5, t6, t7, t8⟩ := t
  have hx : (fst + q.1) % 31 < 31 := Nat.mod_lt _ (by decide)
  have e00 : ((0 : Int32) < 0) = False := eq_false (by decide)
  have e40 : ((4 : Int32) < 0) = False := eq_false (by decide)
  have e90 : ((9 : Int32) < 0) = False := eq_false (by decide)
  have e30 : ((30 : Int32) < 0) = False := eq_false (by decide)
  rw [S_X6_mark L d, r3, r4, nI_add, nIr (by omega) (by omega) (by omega), nIn]
  simp only [lt_def]
  have hx1 : (fst + q.1) % 31 * 47 + 47 ≤ 1457 := by omega
  refine ⟨markF (gI h 18) ((fst + q.1) % 31 * 47) (gI h 10 0) (gI h 10 5) (gI h 10 6) (gI h 10 8) (gI h 12) (gI h 14) (gI h 15), ?_, r2, fst, r1, ?_, ?_, fun k hk j hj => ?_, fun j hj => ?_⟩
  · generalize (fst + q.1) % 31 * 47 = x at hx1
    simp (disch := omega) only [nI_ltI, nI_leI, nI_eq, nIl, nIL, nIe, nIz, ib_nIi, ib_L, ix_L, ck_pos, if_pos, if_neg, lt_def, ck_true, true_and, and_true, true_or, or_true, ix_nI, nI_1, nIa, nIb, nI_add, cI_some, cR_some, cL_some, cV_some, if_true, if_false, Bool.false_eq_true, ne_eq, not_true_eq_false, not_false_eq_true, e00, e40, e90, e30, gI_sIo, gI_rI', gI_rIs, sI_def, rI_rI]
    rfl
  · rw [gI_rI' _ _ _ _ (by decide)]; exact r3
  · rw [gI_rI' _ _ _ _ (by decide)]; exact r4
  · rw [gI_rIs, markF_out]
    · exact r5 k hk j hj
    · omega
  · rw [gI_rIs, markF_in hj]
    unfold rowN
    rw [show gI h 10 0 = nI n from t1, show gI h 10 5 = nI s.2.2.1 from t5.1, show gI h 10 6 = nI s.2.2.2.1 from t6.1, show gI h 10 8 = nI s.2.2.2.2.1 from t7.1]
    by_cases c4 : j < 8
    · rw [if_pos c4, if_pos c4]
      by_cases c3 : j < 4
      · match j, c3 with
        | 0, _ => rfl
        | 1, _ => rfl
        | 2, _ => rfl
        | 3, _ => rfl
      · rw [show gI h 12 (j - 4) = nI (s.1 (j - 4)) from (t3 (j - 4) (by omega)).1]
    · rw [if_neg c4, if_neg c4]
      by_cases c5 : j < 17
      · rw [if_pos c5, if_pos c5, show gI h 14 (j - 8) = nI (s.2.1 (j - 8)) from (t4 (j - 8) (by omega)).1]
      · rw [if_neg c5, if_neg c5, show gI h 15 (j - 17) = s.2.2.2.2.2 (j - 17) from t8 (j - 17) (by omega)]
theorem c_kept0 {h : MH} (L : lay h) (d : Nat) : F_X6_keptIf (d + 1) 0 h = some (.int 0, h) := by
  rw [S_X6_keptIf L d, if_pos rfl, S_X6_keptIf_13 L d, if_pos rfl, ck_pos mrt0]
theorem c_kept1 {h : MH} (L : lay h) (d : Nat) {q : HS} {row : Nat → Int32} (m : MK h q row) : ∃ g, F_X6_keptIf (d + 1) 1 h = some (.int 1, rI h 17 g) ∧ RC g (gI h 18) (pushR q row) := by
  obtain ⟨h0, fst, h1, h2, h3, h4, h5⟩ := m
  rw [S_X6_keptIf L d, if_neg i10, h3]
  unfold pushR
  by_cases c : q.1 < 30
  · rw [if_pos ((nIl (by omega) (by omega)).mpr c), if_pos c, lt_def, nI_1, ck_pos mrt1]
    refine ⟨_, rfl, fst, h1, by show q.1 + 1 ≤ 30; omega, ?_, ?_, fun k hk j hj => ?_⟩
    · rw [up_o _ _ (by decide)]; exact h2
    · rw [up_s]
    · dsimp only at hk ⊢
      by_cases e : k = q.1
      · subst e; rw [up_s]; exact h5 j hj
      · rw [up_o _ _ e]; exact h4 k (by omega) j hj
  · have e30 : q.1 = 30 := by omega
    rw [if_neg (fun w => c ((nIl (by omega) (by omega)).mp w)), if_neg c, S_X6_keptIf_13 L d, if_neg i10, lt_def, h2, nI_1, nIr (by omega) (by omega) (by omega), ck_pos mrt1]
    refine ⟨_, rfl, (fst + 1) % 31, Nat.mod_lt _ (by decide), Nat.le_refl 30, ?_, ?_, fun k hk j hj => ?_⟩
    · rw [up_s]
    · rw [up_o _ _ (by decide), h3, e30]
    · dsimp only at hk ⊢
      rw [show ((fst + 1) % 31 + k) % 31 = (fst + (k + 1)) % 31 by omega]
      by_cases e : k = 29
      · subst e; rw [if_pos rfl, ← h5 j hj, e30]
      · rw [if_neg e]; exact h4 (k + 1) (by omega) j hj
/-- the reference keeps a row -/
theorem m_keep {h : MH} (L : lay h) (d : Nat) {w : Bool} {n : Nat} {W : Nat → Nat} {s : TS} (t : MTh true h n W s) {q : HS} (r : RM (gI h 68) q) : ∃ a, F_X11_keep (d + 1) h = some (.int 0, rI h 68 a) ∧ RM a (pushR q (rowN n s)) ∧ ∀ k, ¬ k = 4 → (k < 58 ∨ 1468 ≤ k) → a k = gI h 68 k := by
  obtain ⟨r1, r2, r3⟩ := r
  obtain ⟨t0, t1, t2, t3, t4, t5, t6, t7, t8⟩ := t
  -- from the count on
  have key : ∀ (b : Nat → Int32) (m : Nat) (o : Option Value), m < 30 → b 4 = nI m → (∀ k, ¬ k = 4 → (k < 58 ∨ 1468 ≤ k) → b k = gI h 68 k) → ∃ a, G_X11_keep_33 d o (rI h 68 b) = some (.int 0, rI h 68 a) ∧ a 4 = nI (m + 1) ∧ (∀ k, k < 58 + 47 * m → ¬ k = 4 → a k = b k) ∧ (∀ j, j < 47 → a (58 + 47 * m + j) = rowN n s j) ∧ (∀ k, 58 + 47 * m + 47 ≤ k → a k = b k) := by
    intro b m o hm b4 bo
    have Lb : ∀ g, lay (rI h 68 g) := fun g => lay_rI L (by decide)
    rw [S_X11_keep_33 (Lb b) d, gI_rIs, b4, nIm, nIa, lt_def, ck_pos (ib_nI (by omega) (by omega)), ix_nI (by omega), lt_def, sI_rI]
    have l1 := loop_all (n := 16) (F := fun i => G_X11_keep_52 d (nI (58 + 47 * m)) (nI i) (rI h 68 (cpA (va_up b (58 + 47 * m) (b 0)) 6 (58 + 47 * m + 1) i))) (fun i hi => by
      show G_X11_keep_52 _ _ _ _ = _
      rw [S_X11_keep_52 (Lb _) d, if_pos ((nIl (by omega) (by omega)).mpr hi), nIa, ck_pos (ib_nI (by omega) (by omega)), nI_1, nI_add, ck_pos (ib_nI (by omega) (by omega)), ix_nI (by omega), ix_nI (by omega), lt_def, gI_rIs, sI_rI, cpA_s (by omega), nI_1])
    rw [cpA_0] at l1
    have l1' : G_X11_keep_52 d (nI (58 + 47 * m)) 0 (rI h 68 (va_up b (58 + 47 * m) (b 0))) = _ := l1
    rw [l1', S_X11_keep_52 (Lb _) d, if_neg (by decide)]
    have l2 := loop_all (n := 30) (F := fun i => G_X11_keep_73 d (nI (58 + 47 * m)) (nI i) (rI h 68 (cpA (cpA (va_up b (58 + 47 * m) (b 0)) 6 (58 + 47 * m + 1) 16) 1468 (58 + 47 * m + 1 + 16) i))) (fun i hi => by
      show G_X11_keep_73 _ _ _ _ = _
      rw [S_X11_keep_73 (Lb _) d, if_pos ((nIl (by omega) (by omega)).mpr hi), nIa, ck_pos (ib_nI (by omega) (by omega)), nI_1, nIb, nI_add, ck_pos (ib_nI (by omega) (by omega)), ix_nI (by omega), ix_nI (by omega), lt_def, gI_rIs, sI_rI, cpA_s (by omega), nI_1])
    rw [cpA_0] at l2
    have l2' : G_X11_keep_73 d (nI (58 + 47 * m)) 0 (rI h 68 (cpA (va_up b (58 + 47 * m) (b 0)) 6 (58 + 47 * m + 1) 16)) = _ := l2
    rw [l2', S_X11_keep_73 (Lb _) d, if_neg (by decide), lt_def, gI_rIs, sI_rI]
    have out : ∀ k, (k < 58 + 47 * m ∨ 58 + 47 * m + 47 ≤ k) → cpA (cpA (va_up b (58 + 47 * m) (b 0)) 6 (58 + 47 * m + 1) 16) 1468 (58 + 47 * m + 1 + 16) 30 k = b k := by
      intro k hk
      unfold cpA
      rw [if_neg (by omega), if_neg (by omega), up_o _ _ (by omega)]
    refine ⟨_, rfl, ?_, fun k hk h4 => ?_, fun j hj => ?_, fun k hk => ?_⟩
    · rw [up_s, out 4 (by omega), b4, nI_1]
    · rw [up_o _ _ h4, out k (Or.inl hk)]
    · rw [up_o _ _ (by omega)]
      have mid : ∀ k, 58 + 47 * m < k → va_up b (58 + 47 * m) (b 0) k = b k := fun k hk => up_o _ _ (by omega)
      by_cases c0 : j = 0
      · subst c0
        unfold cpA
        rw [if_neg (by omega), if_neg (by omega), Nat.add_zero, up_s, bo 0 (by omega) (by omega), t1]
        rfl
      by_cases c17 : j < 17
      · unfold cpA
        rw [if_neg (by omega), if_pos (by omega), up_o _ _ (by omega), bo _ (by omega) (by omega)]
        unfold rowN
        rw [if_neg c0]
        by_cases c1 : j = 1
        · subst c1
          rw [if_pos rfl, show 6 + (58 + 47 * m + 1 - (58 + 47 * m + 1)) = 6 by omega]; exact t5.1
        rw [if_neg c1]
        by_cases c2 : j = 2
        · subst c2
          rw [if_pos rfl, show 6 + (58 + 47 * m + 2 - (58 + 47 * m + 1)) = 7 by omega]; exact t6.1
        rw [if_neg c2]
        by_cases c3 : j = 3
        · subst c3
          rw [if_pos rfl, show 6 + (58 + 47 * m + 3 - (58 + 47 * m + 1)) = 8 by omega]; exact (t7 rfl).1
        rw [if_neg c3]
        by_cases c8 : j < 8
        · rw [if_pos c8, show 6 + (58 + 47 * m + j - (58 + 47 * m + 1)) = 9 + (j - 4) by omega]; exact (t3 (j - 4) (by omega)).1
        · rw [if_neg c8, if_pos c17, show 6 + (58 + 47 * m + j - (58 + 47 * m + 1)) = 13 + (j - 8) by omega]; exact (t4 (j - 8) (by omega)).1
      · unfold cpA
        rw [if_pos (by omega), if_neg (by omega), up_o _ _ (by omega), bo _ (by omega) (by omega), show 1468 + (58 + 47 * m + j - (58 + 47 * m + 1 + 16)) = 1468 + (j - 17) by omega, t8 rfl (j - 17) (by omega)]
        unfold rowN
        rw [if_neg (by omega), if_neg (by omega), if_neg (by omega), if_neg (by omega), if_neg (by omega), if_neg (by omega)]
    · rw [up_o _ _ (by omega), out k (Or.inr hk)]
  rw [S_X11_keep L d, r2]
  unfold pushR
  by_cases c : q.1 < 30
  · rw [if_neg (fun e => by have := (nIe (by omega) (by omega)).mp e; omega), if_pos c]
    obtain ⟨a, e, a4, a1, a2, a3⟩ := key (gI h 68) q.1 none c r2 (fun _ _ _ => rfl)
    rw [rI_self] at e
    refine ⟨a, e, ⟨by show q.1 + 1 ≤ 30; omega, a4, fun k hk j hj => ?_⟩, fun k h4 hk => ?_⟩
    · dsimp only at hk ⊢
      by_cases e : k = q.1
      · subst e; rw [up_s]; exact a2 j hj
      · rw [up_o _ _ e, a1 _ (by omega) (by omega)]; exact r3 k (by omega) j hj
    · rcases hk with hk | hk
      · exact a1 k (by omega) h4
      · exact a3 k (by omega)
  · have e30 : q.1 = 30 := by omega
    rw [if_pos (show nI q.1 = 30 by rw [e30]; rfl), if_neg c]
    have Lb : ∀ g, lay (rI h 68 g) := fun g => lay_rI L (by decide)
    have l1 := loop_all (n := 1363) (F := fun i => G_X11_keep_8 d (nI i) (rI h 68 (cpA (gI h 68) 105 58 i))) (fun i hi => by
      show G_X11_keep_8 _ _ _ = _
      rw [S_X11_keep_8 (Lb _) d, if_pos ((nIl (by omega) (by omega)).mpr hi), nIa, ck_pos (ib_nI (by omega) (by omega)), nIa, ck_pos (ib_nI (by omega) (by omega)), ix_nI (by omega), ix_nI (by omega), lt_def, gI_rIs, sI_rI, cpA_s (by omega), nI_1])
    rw [cpA_0, rI_self] at l1
    have l1' : G_X11_keep_8 d 0 h = _ := l1
    rw [l1', S_X11_keep_8 (Lb _) d, if_neg (by decide), lt_def, gI_rIs, sI_rI]
    have lo : ∀ k, k < 58 ∨ 1421 ≤ k → cpA (gI h 68) 105 58 1363 k = gI h 68 k := by
      intro k hk
      unfold cpA
      rw [if_neg (by omega)]
    have e4 : cpA (gI h 68) 105 58 1363 4 - 1 = nI 29 := by
      rw [lo 4 (by omega), r2, e30]
      decide
    obtain ⟨a, e, a4, a1, a2, a3⟩ := key (va_up (cpA (gI h 68) 105 58 1363) 4 (nI 29)) 29 (some (.int (nI 1363))) (by omega) (up_s _ _ _) (fun k h4 hk => by rw [up_o _ _ h4, lo k (by omega)])
    rw [e4]
    refine ⟨a, e, ⟨Nat.le_refl 30, a4, fun k hk j hj => ?_⟩, fun k h4 hk => ?_⟩
    · dsimp only at hk ⊢
      by_cases e : k = 29
      · subst e; rw [if_pos rfl]; exact a2 j hj
      · rw [if_neg e, a1 _ (by omega) (by omega), up_o _ _ (by omega), ← r3 (k + 1) (by omega) j hj]
        unfold cpA
        rw [if_pos (by omega)]
        congr 1
        omega
    · rcases hk with hk | hk
      · rw [a1 k (by omega) h4, up_o _ _ h4, lo k (by omega)]
      · rw [a3 k (by omega), up_o _ _ h4, lo k (by omega)]
end HIST
