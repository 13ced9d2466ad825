--deps:19.lay 21.facts 22.00.names 22.01.eq 22.02.eq 22.03.eq 22.04.eq 22.05.eq 22.06.eq 22.07.eq 22.08.eq 22.09.eq 22.10.eq 22.11.eq 22.12.eq 22.13.eq 22.14.eq 22.15.eq 22.16.eq 22.17.eq 22.18.eq 22.19.eq 22.20.eq 22.21.eq 22.22.eq 22.23.eq 23.num 24.town 25.evc 26.evm 27.law 28.says 29.inv 30.api1 31.copy 32.api2
/-! QUESTIONS: heaviest, lone, tip, send, halves, cat -/
set_option linter.unusedSectionVars false
theorem bc_pop : ∀ s, s < 16 → ∀ (d : Nat) (h : MH), mE mtab (d + 1) 259 [.int (nI s)] h = some (.int (nI (popN s)), h) := by
  intro s hs d h
  rw [D_J6_bitCount_0f7a4]
  simp only [lt_def]
  congr 3
  revert s
  decide +kernel
section BASE
theorem m_bits {h : MH} (L : lay h) (d : Nat) {s : Nat} (hs : s < 16) : F_X11_bits (d + 1) (nI s) h = some (.int (nI (popN s)), h) := by
  rw [S_X11_bits L d]
  have key : ∀ k s (l : Int32) (a : Nat), s < 16 → s ≤ k → G_X11_bits_4 d l (nI a) (nI s) h = some (.int (nI (a + popN s)), h) := by
    intro k
    induction k with
    | zero =>
      intro s l a hs hk
      obtain rfl : s = 0 := by omega
      rw [S_X11_bits_4 L d, if_pos (show nI 0 = 0 from rfl)]
      rfl
    | succ k ih =>
      intro s l a hs hk
      by_cases h0 : s = 0
      · subst h0
        rw [S_X11_bits_4 L d, if_pos (show nI 0 = 0 from rfl)]
        rfl
      · obtain ⟨e1, e2⟩ := pop_step s hs (by omega)
        rw [S_X11_bits_4 L d, if_neg (fun q => h0 ((nIe (by omega) (by omega)).mp q)), lt_def, show (1 : Int32) = nI 1 from rfl, pk_sub (by omega), and_nI (by omega) (by omega), nI_add, ih _ _ _ (by omega) (by omega)]
        congr 4
        omega
  have := key s s (nI s) 0 hs (Nat.le_refl s)
  rw [Nat.zero_add] at this
  exact this
end BASE
def sendF (z a : Int32) (i : Nat) (b : Int32) : Int32 := if jabs (z + a * (nI (i + 1) - 4)) < jabs (z + a * (b - 4)) then nI (i + 1) else b
section API3
theorem A_heaviest {c : Nat} {h : MH} (I : INV c h) (d : Nat) : AGI c (F_X10_heaviest (d + 4)) (F_X11_heaviest (d + 4)) h := by
  have L := I.1
  obtain ⟨_, ⟨n, W, P, SN, H, X, wr, tn, N, K⟩, M, R⟩ := id I
  have t := NOW_t N
  have m := NOW_m N
  have hn := t.1
  have bd : ∀ p, p < 9 → ldN n W P SN p < 2 ^ 31 := fun p hp => by
    have h1 := (t.2.2.2.2 p hp).2
    have h2 := sumN_le (f := fun p' => if P p' = p then W p' else 0) (n := n) (b := 9) (fun i hi => by
      have := (t.2.2.1 i hi).2
      split <;> omega)
    unfold ldN
    omega
  have av : ∀ i, i ≤ 9 → amv (ldN n W P SN) (amx (ldN n W P SN) i) < 2 ^ 31 := fun i hi => by
    cases hb : amx (ldN n W P SN) i with
    | none => exact Nat.two_pow_pos 31
    | some b => exact bd b (by have := amx_lt hb; omega)
  have cw : ∀ p, p < 9 → F_X9_weightAt (d + 3) 10 (nI p) h = some (.int (nI (ldN n W P SN p)), h) := fun p hp => c_weightAt L (d + 2) tAt10 t hp
  have mw : ∀ p, p < 9 → F_X11_loadOf (d + 3) (nI p) h = some (.int (nI (ldN n W P SN p)), h) := fun p hp => m_loadOf L d m hp
  generalize ldN n W P SN = f at bd av cw mw
  refine ⟨oI (amx f 9), h, h, ?_, ?_, I⟩
  · rw [S_X10_heaviest L (d + 3)]
    obtain ⟨o, -, e⟩ := loop_rel (n := 9) (I := fun _ _ => True) (G := fun i (o : Option Value) => G_X10_heaviest_6 (d + 3) (oI (amx f i)) (nI (amv f (amx f i))) (nI i) o h) (s := none) (fun i o hi _ => by
      refine ⟨some (.int (nI (f i))), trivial, ?_⟩
      have b1 := bd i hi
      have b2 := av i (by omega)
      rw [S_X10_heaviest_6 L (d + 3), if_pos ((nIl (by omega) (by omega)).mpr hi), cw i hi, cI_some, S_X10_heaviest_22 L, S_X10_heaviest_22 L, nI_1, amx_s]
      by_cases q : amv f (amx f i) < f i
      · rw [if_neg (fun w => by have := (nI_leI (by omega) (by omega)).mp w; omega), if_pos q]
        rfl
      · rw [if_pos (nI_le (by omega) (by omega)), if_neg q]) trivial
    refine e.trans ?_
    rw [S_X10_heaviest_6 L (d + 3), if_neg (by decide)]
  · rw [S_X11_heaviest L (d + 3)]
    refine (loop_all (n := 9) (F := fun i => G_X11_heaviest_4 (d + 3) (oI (amx f i)) (nI i) h) (fun i hi => ?_)).trans ?_
    · show G_X11_heaviest_4 _ _ _ _ = _
      have b1 := bd i hi
      have b2 := av i (by omega)
      rw [S_X11_heaviest_4 L (d + 3), if_pos ((nIl (by omega) (by omega)).mpr hi), mw i hi, cI_some, amx_s]
      have fin : ∀ v : Int32, v = nI (amv f (amx f i)) → G_X11_heaviest_18 (d + 3) (oI (amx f i)) (nI i) v (nI (f i)) h = G_X11_heaviest_4 (d + 3) (oI (if amv f (amx f i) < f i then some i else amx f i)) (nI (i + 1)) h := by
        rintro v rfl
        rw [S_X11_heaviest_18 L, S_X11_heaviest_21 L, S_X11_heaviest_21 L, nI_1]
        by_cases q : amv f (amx f i) < f i
        · rw [if_neg (fun w => by have := (nI_leI (by omega) (by omega)).mp w; omega), if_pos q]
          rfl
        · rw [if_pos (nI_le (by omega) (by omega)), if_neg q]
      cases hb : amx f i with
      | none =>
        rw [hb] at fin
        rw [if_pos (show oI none = -1 from rfl)]
        exact fin _ rfl
      | some b =>
        have hbl := amx_lt hb
        rw [hb] at fin
        rw [if_neg (show ¬ oI (some b) = -1 from nI_m1 (by omega)), show oI (some b) = nI b from rfl, mw b (by omega), cI_some]
        exact fin _ rfl
    · show G_X11_heaviest_4 _ _ _ _ = _
      rw [S_X11_heaviest_4 L (d + 3), if_neg (by decide)]
theorem A_send {c : Nat} {h : MH} (I : INV c h) (d : Nat) (a : Int32) : AGI c (F_X10_send (d + 4) a) (F_X11_send (d + 4) a) h := by
  have L := I.1
  obtain ⟨_, ⟨n, W, P, SN, H, X, wr, tn, N, K⟩, M, R⟩ := id I
  have t := NOW_t N
  have m := NOW_m N
  by_cases hw : 1 ≤ a ∧ a ≤ 9
  · refine ⟨itr (sendF (zI (tipZ n W P SN)) a) 0 8, h, h, ?_, ?_, I⟩
    · rw [S_X10_send L (d + 3), c_within L, cI_some, bI_pos hw, if_neg i10, c_tipNow L (d + 2) tAt10 t, cI_some]
      refine (loop_itr (n := 8) (f := sendF (zI (tipZ n W P SN)) a) (G := fun i b => G_X10_send_16 (d + 3) a (zI (tipZ n W P SN)) b (nI (i + 1)) h) (fun i b hi => ?_) 0).trans ?_
      · show G_X10_send_16 _ _ _ _ _ _ = _
        rw [S_X10_send_16 L (d + 3), if_pos ((nIl (by omega) (by omega)).mpr (by omega)), S_X10_send_38 L, S_X10_send_38 L, nI_1]
        unfold sendF
        split <;> rfl
      · show G_X10_send_16 _ _ _ _ _ _ = _
        rw [S_X10_send_16 L (d + 3), if_neg (by decide)]
    · rw [S_X11_send L (d + 3), m_isIn L, cI_some, bI_pos hw, if_neg i10]
      refine (loop_itr (n := 8) (f := sendF (zI (tipZ n W P SN)) a) (G := fun i b => G_X11_send_11 (d + 3) a b (nI (i + 1)) h) (fun i b hi => ?_) 0).trans ?_
      · show G_X11_send_11 _ _ _ _ _ = _
        rw [S_X11_send_11 L (d + 3), if_pos ((nIl (by omega) (by omega)).mpr (by omega)), m_tipNow L d m, cI_some, m_sizeJ L (d + 2), cI_some, m_tipNow L d m, cI_some, m_sizeJ L (d + 2), cI_some, S_X11_send_35 L, S_X11_send_35 L, nI_1]
        unfold sendF
        split <;> rfl
      · show G_X11_send_11 _ _ _ _ _ = _
        rw [S_X11_send_11 L (d + 3), if_neg (by decide)]
  · refine ⟨-1, h, h, ?_, ?_, I⟩
    · rw [S_X10_send L (d + 3), c_within L, cI_some, bI_neg hw, if_pos rfl]
    · rw [S_X11_send L (d + 3), m_isIn L, cI_some, bI_neg hw, if_pos rfl]
theorem A_tip {c : Nat} {h : MH} (I : INV c h) (d : Nat) (a b : Int32) : AGI c (F_X10_tip (d + 4) a b) (F_X11_tip (d + 4) a b) h := by
  have L := I.1
  obtain ⟨_, ⟨n, W, P, SN, H, X, wr, tn, N, K⟩, M, R⟩ := id I
  have t := NOW_t N
  have m := NOW_m N
  have hn := t.1
  rcases ib_cases (a := a) (N := n) (by omega) with ⟨e, -⟩ | ⟨p, hp, rfl, e⟩
  · refine ⟨-1000, h, h, ?_, ?_, I⟩
    · rw [S_X10_tip L (d + 3), c_has L (d + 1) tAt10 t, cI_some, e, if_pos rfl]
    · rw [S_X11_tip L (d + 3), m_isPerson L (d + 1) m, cI_some, e, if_pos rfl]
  rcases in_cases (a := b) (N := 9) (by omega) with ⟨e2, hne⟩ | ⟨k, hk, rfl, e2⟩
  · have e2' : bI (0 ≤ b ∧ b ≤ 8) = 0 := e2
    refine ⟨-1000, h, h, ?_, ?_, I⟩
    · rw [S_X10_tip L (d + 3), c_has L (d + 1) tAt10 t, cI_some, e, if_neg i10, c_within L, cI_some, e2', if_pos rfl]
    · rw [S_X11_tip L (d + 3), m_isPerson L (d + 1) m, cI_some, e, if_neg i10, m_isPlace L (d + 1), cI_some, bI_neg hne, if_pos rfl]
  have e2' : bI (0 ≤ nI k ∧ nI k ≤ 8) = 1 := e2
  obtain ⟨g1, e1, C⟩ := c_copyFrom L (d + 2) tAt43 tAt10 (by decide)
  have L1 : lay g1 := lay_call (d + 3) 225 [.ref 43, .ref 10] h _ g1 rfl e1 L
  have t1 := CPY_twn C t
  have s1 := CPY_sm C
  have L2 : lay (sI g1 45 p (nI k)) := layI L1 (by decide)
  have s2 : sm SCR g1 (sI g1 45 p (nI k)) := sm_rI (Or.inl ⟨by decide, by decide⟩)
  have t2 : twn (sI g1 45 p (nI k)) 43 n W (va_up P p k) SN := by
    obtain ⟨q0, q1, q2, q3, q4⟩ := t1
    refine ⟨q0, ?_, ?_, fun p' hp' => ?_, ?_⟩
    · rw [gI_sIo _ _ _ _ _ (by decide)]; exact q1
    · rw [gI_sIo _ _ _ _ _ (by decide)]; exact q2
    · rw [gI_sIs]
      by_cases ee : p' = p
      · subst ee; rw [up_s, up_s]; exact ⟨rfl, by omega⟩
      · rw [up_o _ _ ee, up_o _ _ ee]; exact q3 p' hp'
    · rw [gI_sIo _ _ _ _ _ (by decide)]; exact q4
  have s12 := sm_trans s1 s2
  have N2 := NOW_sm s12 N
  refine ⟨zI (tipZ n W (va_up P p k) SN), sI g1 45 p (nI k), sI g1 45 p (nI k), ?_, ?_, INV_sm s12 L2 I⟩
  · rw [S_X10_tip L (d + 3), c_has L (d + 1) tAt10 t, cI_some, e, if_neg i10, c_within L, cI_some, e2', if_neg i10, e1, cV_some, ck_pos (ib_nI (by omega) (by omega)), lt_def, ix_nI (by omega), c_tipNow L2 (d + 2) tAt43 t2, cI_some]
  · rw [S_X11_tip L2 (d + 3), m_isPerson L2 (d + 1) (NOW_m N2), cI_some, e, if_neg i10, m_isPlace L2 (d + 1), cI_some, bI_pos (ib_nI hk (by omega)), if_neg i10, m_tipNow L2 d (NOW_m N2), cI_some, nIa, nIa, ck_pos (ib_nI (by omega) (by omega)), ck_pos (ib_nI (by omega) (by omega)), ix_nI (by omega), ix_nI (by omega), ((NOW_m N2).2.2.1 p hp).1, ((NOW_m N2).2.2.2.1 p hp).1]
    simp only [nI_zI, lit_zI, zI_add, zI_mul, zI_sub, zI_neg, if_true, if_false, Bool.false_eq_true]
    congr 4
    unfold tipZ
    have key : ∀ j, sumZ (fun p' => (W p' : Int) * (((va_up P p k p' : Nat) : Int) - 4)) j = sumZ (fun p' => (W p' : Int) * ((P p' : Int) - 4)) j + if p < j then (W p : Int) * ((k : Int) - P p) else 0 := by
      intro j
      induction j with
      | zero => rfl
      | succ j ih =>
        rw [sumZ, sumZ, ih]
        by_cases ee : j = p
        · subst ee
          rw [up_s, if_neg (by omega), if_pos (by omega)]
          grind
        · rw [up_o _ _ ee]
          by_cases hl : p < j
          · rw [if_pos hl, if_pos (by omega)]; omega
          · rw [if_neg hl, if_neg (by omega)]; omega
    rw [key, if_pos hp]
    omega
end API3
