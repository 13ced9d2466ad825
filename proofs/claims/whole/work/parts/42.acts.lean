--deps:19.lay 21.facts 22.00.names 22.01.eq 22.02.eq 22.03.eq 22.04.eq 22.05.eq 22.06.eq 22.07.eq 22.08.eq 22.09.eq 22.10.eq 22.11.eq 22.12.eq 22.13.eq 22.14.eq 22.15.eq 22.16.eq 22.17.eq 22.18.eq 22.19.eq 22.20.eq 22.21.eq 22.22.eq 22.23.eq 23.num 24.town 25.evc 26.evm 27.law 28.says 29.inv 30.api1 31.copy 32.api2 33.api3 34.api4 35.api5 36.deeds 37.hours 38.mdeeds 39.mhours 40.hist 41.full
/-! THE RELATION by the pure borough; walks, pairs, shovelling, hours, years -/
set_option linter.unusedSectionVars false
theorem stepP_P {P P' : Nat → Nat} {p : Nat} {r : Bool} (e : stepP P p r = some P') {k : Nat} (hk : ¬ k = p) : P' k = P k := by
  obtain ⟨v, -, rfl⟩ := stepP_form e
  exact up_o _ _ hk
theorem goS_P {n : Nat} {W : Nat → Nat} {dt : Option Den} {s s' : TS} {p : Nat} {r : Bool} (hp : p < n) (e : goS n W dt s p r = some s') {k : Nat} (hk : n ≤ k) : s'.1 k = s.1 k := by
  unfold goS at e
  split at e
  · cases e
  · rename_i P' hP
    cases hst : stl n W P' s.2.1 s.2.2.1 dt with
    | true => rw [hst] at e; cases e; exact stepP_P hP (by omega)
    | false => rw [hst] at e; cases e
theorem pairS_P {n : Nat} {W : Nat → Nat} {dt : Option Den} {s s' : TS} {p p2 : Nat} {r r2 : Bool} (hp : p < n) (hp2 : p2 < n) (e : pairS n W dt s p r p2 r2 = some s') {k : Nat} (hk : n ≤ k) : s'.1 k = s.1 k := by
  unfold pairS at e
  split at e
  · cases e
  · split at e
    · cases e
    · rename_i P1 h1
      split at e
      · cases e
      · rename_i P2 h2
        cases hst : stl n W P2 s.2.1 s.2.2.1 dt with
        | true => rw [hst] at e; cases e; exact (stepP_P h2 (by omega)).trans (stepP_P h1 (by omega))
        | false => rw [hst] at e; cases e
theorem clearS_P {n : Nat} {W : Nat → Nat} {dt : Option Den} {s s' : TS} {x y : Nat} (e : clearS n W dt s x y = some s') : s'.1 = s.1 := by
  unfold clearS at e
  split at e
  · cases e
  · cases hst : stl n W s.1 (va_up s.2.1 x (s.2.1 x - y)) s.2.2.1 dt with
    | true => rw [hst] at e; cases e; rfl
    | false => rw [hst] at e; cases e
theorem wrS_1 (s : TS) (p f t : Nat) : (wrS s p f t).1 = s.1 := by unfold wrS; split <;> rfl
theorem slS_P {n : Nat} {W : Nat → Nat} {ds : Option Den} {r : Bool} {p : Nat} {s : TS} (hp : p < n) {k : Nat} (hk : n ≤ k) : (slS n W ds r p s).1 k = s.1 k := by
  unfold slS
  split
  · rfl
  · dsimp only
    rw [up_o _ _ (by omega), wrS_1]
theorem slA_P {n : Nat} {W : Nat → Nat} {ds : Option Den} {r : Bool} {s : TS} {k : Nat} (hk : n ≤ k) : ∀ i, i ≤ n → (itr (slS n W ds r) s i).1 k = s.1 k := by
  intro i
  induction i with
  | zero => intro _; rfl
  | succ i ih => intro hi; rw [itr, slS_P (by omega) hk]; exact ih (by omega)
theorem passS_P {n : Nat} {W : Nat → Nat} {dt ds : Option Den} {s : TS} {k : Nat} (hk : n ≤ k) : (passS n W dt ds s).1 k = s.1 k := by
  unfold passS sldS
  cases slipS n W dt s with
  | true => exact (slA_P hk n (Nat.le_refl n)).trans (by rw [snS_P])
  | false => exact (by rw [snS_P] : (snS s).1 k = s.1 k)
theorem slA_H {n : Nat} {W : Nat → Nat} {ds : Option Den} {r : Bool} {s : TS} : ∀ i, (itr (slS n W ds r) s i).2.2.1 = s.2.2.1 := by
  intro i
  induction i with
  | zero => rfl
  | succ i ih =>
    rw [itr]
    unfold slS
    split
    · exact ih
    · show (wrS _ _ _ _).2.2.1 = _
      unfold wrS
      split <;> exact ih
theorem passS_H {n : Nat} {W : Nat → Nat} {dt ds : Option Den} {s : TS} : (passS n W dt ds s).2.2.1 = s.2.2.1 + 1 := by
  unfold passS sldS
  cases slipS n W dt s with
  | true => exact congrArg (· + 1) ((slA_H n).trans (snS_H s))
  | false => exact congrArg (· + 1) (snS_H s)
theorem getD_P {o : Option TS} {s : TS} {k : Nat} (h : ∀ s', o = some s' → s'.1 k = s.1 k) : (o.getD s).1 k = s.1 k := by
  cases o with
  | none => rfl
  | some s' => exact h s' rfl
theorem hapS_P {n : Nat} {W : Nat → Nat} {dt ds : Option Den} {x : Nat} {s : TS} {k : Nat} (hk : n ≤ k) : (hapS n W dt ds x s).1 k = s.1 k := by
  unfold hapS
  split
  · exact getD_P (fun s' e => by rw [clearS_P e])
  · split
    · split
      · rfl
      · rename_i c0
        split
        · exact getD_P (fun s' e => pairS_P (Nat.mod_lt _ (by omega)) (Nat.mod_lt _ (by omega)) e hk)
        · exact getD_P (fun s' e => goS_P (Nat.mod_lt _ (by omega)) e hk)
    · split
      · exact passS_P hk
      · rfl
/-- bounds of a town -/
def TSb (s : TS) : Prop := (∀ p, p < 4 → s.1 p ≤ 8) ∧ (∀ c, c < 9 → s.2.1 c ≤ 9) ∧ s.2.2.1 ≤ 9999 ∧ s.2.2.2.1 ≤ 30840 ∧ s.2.2.2.2.1 ≤ 30
theorem CT_b {h : MH} {q n : Nat} {W : Nat → Nat} {s : TS} (t : CT h q n W s) : TSb s := ⟨fun p hp => (t.2.2.2.1 p hp).2, fun c hc => (t.2.2.2.2.1 c hc).2, t.2.2.2.2.2.1.2, t.2.2.2.2.2.2.1.2, t.2.2.2.2.2.2.2.1.2⟩
theorem OKF_k {F : FS} {s' : TS} (hn : F.1.1 ≤ 4) (hq : F.2.2.2.2.1 ≤ 30) (ok : OKF F) (b : TSb F.2.2.2.1) (hs : ∀ p, p < 4 → F.1.1 ≤ p → s'.1 p = 0) : OKF (Fk F s') := by
  obtain ⟨o1, o2, o3, o4, o5, o6⟩ := ok
  refine ⟨o1, o2, hs, o4, o5, ?_⟩
  exact HI_push hq o6 rfl (rowN_ok (fun p hp => ⟨b.1 p hp, o3 p hp⟩) b.2.1 b.2.2.1 b.2.2.2.1 b.2.2.2.2) (fun p hp => rowN_P (by omega))
theorem RC_30 {st rw : Nat → Int32} {q : HS} (r : RC st rw q) : q.1 ≤ 30 := by
  obtain ⟨_, _, h, _⟩ := r
  exact h
/-- hours -/
noncomputable def hrs (dt ds : Option Den) : Nat → FS → FS × Nat
  | 0, F => (F, 0)
  | r + 1, F => if F.2.2.2.1.2.2.1 < 9999 then ((hrs dt ds r (Fk F (passS F.1.1 F.1.2 dt ds F.2.2.2.1))).1, (slipS F.1.1 F.1.2 dt F.2.2.2.1).toNat + (hrs dt ds r (Fk F (passS F.1.1 F.1.2 dt ds F.2.2.2.1))).2) else (F, 0)
noncomputable def yrs (n : Nat) (W : Nat → Nat) (dt ds : Option Den) : Nat → TS → TS
  | 0, s => s
  | r + 1, s => yrs n W dt ds r (hapS n W dt ds s.2.2.2.1 (s.1, s.2.1, s.2.2.1, (s.2.2.2.1 * 601 + 467) % 30841, s.2.2.2.2))
theorem yrs_P {n : Nat} {W : Nat → Nat} {dt ds : Option Den} {k : Nat} (hk : n ≤ k) : ∀ (r : Nat) (s : TS), (yrs n W dt ds r s).1 k = s.1 k := by
  intro r
  induction r with
  | zero => intro s; rfl
  | succ r ih => intro s; rw [yrs, ih, hapS_P hk]
theorem c_waits {dt ds : Option Den} (d m : Nat) (hm : m ≤ 60) : ∀ (r i sl : Nat) (F : FS) (h : MH), lay h → i + r = m → CFS h F → OKF F → rlC h (gR h 10 9) dt ds → ∃ h', G_X0_waits_4 (d + 5) (nI m) (nI sl) (nI i) h = some (.int (nI (sl + (hrs dt ds r F).2)), h') ∧ CFS h' (hrs dt ds r F).1 ∧ CFr h h' ∧ OKF (hrs dt ds r F).1 := by
  intro r
  induction r with
  | zero =>
    intro i sl F h L hi c ok rl
    rw [S_X0_waits_4 L (d + 5), if_neg (nI_nlt (by omega) (by omega))]
    exact ⟨h, rfl, c, CFr_refl L, ok⟩
  | succ r ih =>
    intro i sl F h L hi c ok rl
    have cc := c
    obtain ⟨c1, c2, c3, c4⟩ := c
    have tH := c1.2.2.2.2.2.1
    rw [S_X0_waits_4 L (d + 5), if_pos (nI_lt (by omega) (by omega)), show gI h 10 5 = nI F.2.2.2.1.2.2.1 from tH.1, hrs]
    by_cases c9 : F.2.2.2.1.2.2.1 < 9999
    · rw [if_pos ((nIl (by omega) (by omega)).mpr c9), if_pos c9]
      obtain ⟨g, e1, m1⟩ := c_mark L (d + 4) c1 c4
      have f1 : CFr h (rI h 18 g) := CFr_rI L (by decide)
      have t1 : CT (rI h 18 g) 10 F.1.1 F.1.2 F.2.2.2.1 := CT_eq (gI_rI' _ _ _ _ (by decide)) (gI_rI' _ _ _ _ (by decide)) (gI_rI' _ _ _ _ (by decide)) (gI_rI' _ _ _ _ (by decide)) (gI_rI' _ _ _ _ (by decide)) c1
      obtain ⟨h2, e2, t2, f2⟩ := c_passHour f1.2.2 d tAt10 t1 (CFr_rl f1 rl) c9
      have m2 : MK h2 F.2.2.2.2 (rowN F.1.1 F.2.2.2.1) := MK_eq m1 (sm_gI f2.1 (by decide) (by decide)) (sm_gI f2.1 (by decide) (by decide))
      obtain ⟨g3, e3, r3⟩ := c_kept1 f2.2.2 (d + 4) m2
      have f3 : CFr h2 (rI h2 17 g3) := CFr_rI f2.2.2 (by decide)
      have f13 := CFr_trans f1 (CFr_trans (CFr_CF f2) f3)
      have cF : CFS (rI h2 17 g3) (Fk F (passS F.1.1 F.1.2 dt ds F.2.2.2.1)) := by
        refine ⟨?_, fun p hp => ?_, fun p hp => ?_, ?_⟩
        · exact CT_eq (gI_rI' _ _ _ _ (by decide)) (gI_rI' _ _ _ _ (by decide)) (gI_rI' _ _ _ _ (by decide)) (gI_rI' _ _ _ _ (by decide)) (gI_rI' _ _ _ _ (by decide)) t2
        · rw [gI_rI' _ _ _ _ (by decide), sm_gI f2.1 (by decide) (by decide), gI_rI' _ _ _ _ (by decide)]; exact c2 p hp
        · rw [gI_rI' _ _ _ _ (by decide), sm_gI f2.1 (by decide) (by decide), gI_rI' _ _ _ _ (by decide)]; exact c3 p hp
        · rw [gI_rIs, gI_rI' _ _ _ _ (by decide)]; exact r3
      have ok' : OKF (Fk F (passS F.1.1 F.1.2 dt ds F.2.2.2.1)) := OKF_k c1.1 (RC_30 c4) ok (CT_b c1) (fun p hp hk => by rw [passS_P hk]; exact ok.2.2.1 p hp hk)
      rw [e1, cV_some, e2, cI_some]
      have go : ∀ x : Nat, ∃ h', G_X0_waits_25 (d + 5) (nI m) (nI sl) (nI i) (nI x) (nI sl) h2 = some (.int (nI (sl + (x + (hrs dt ds r (Fk F (passS F.1.1 F.1.2 dt ds F.2.2.2.1))).2))), h') ∧ CFS h' (hrs dt ds r (Fk F (passS F.1.1 F.1.2 dt ds F.2.2.2.1))).1 ∧ CFr h h' ∧ OKF (hrs dt ds r (Fk F (passS F.1.1 F.1.2 dt ds F.2.2.2.1))).1 := by
        intro x
        obtain ⟨h', e', c', f', o'⟩ := ih (i + 1) (sl + x) _ _ f3.2.2 (by omega) cF ok' (CFr_rl f13 rl)
        rw [S_X0_waits_25 f2.2.2 (d + 5), e3, cI_some, nI_add, nI_1, e', Nat.add_assoc]
        exact ⟨h', rfl, c', CFr_trans f13 f', o'⟩
      cases hs : slipS F.1.1 F.1.2 dt F.2.2.2.1 with
      | true =>
        rw [if_neg bz1]
        exact go 1
      | false =>
        rw [if_pos (show bz false = 0 from rfl)]
        exact go 0
    · rw [if_neg (fun q => c9 ((nIl (by omega) (by omega)).mp q)), if_neg c9]
      exact ⟨h, rfl, cc, CFr_refl L, ok⟩
theorem m_passed {dt ds : Option Den} (d m : Nat) (hm : m ≤ 60) : ∀ (r i : Nat) (F : FS) (h : MH), lay h → i + r = m → MFS h F → gI h 67 23 = 1 → rlM h (gI h 68 3) dt ds → ∃ h', G_X11_arePassed_5 (d + 10) (nI m) (nI i) h = some (.int (if F.2.2.2.1.2.2.1 + r ≤ 9999 then 1 else 0), h') ∧ MFS h' (hrs dt ds r F).1 ∧ MFr h h' ∧ gI h' 67 24 = gI h 67 24 + nI (hrs dt ds r F).2 := by
  intro r
  induction r with
  | zero =>
    intro i F h L hi c hw rl
    have tH := c.1.2.2.2.2.2.1
    rw [S_X11_arePassed_5 L (d + 10), if_neg (nI_nlt (by omega) (by omega)), if_pos (by omega)]
    exact ⟨h, rfl, c, MFr_refl L, (Int32.add_zero _).symm⟩
  | succ r ih =>
    intro i F h L hi c hw rl
    have tH := c.1.2.2.2.2.2.1
    rw [S_X11_arePassed_5 L (d + 10), if_pos (nI_lt (by omega) (by omega)), tH.1, hrs]
    by_cases c9 : F.2.2.2.1.2.2.1 < 9999
    · rw [if_neg (fun q => by have := (nIe (by omega) (by omega)).mp q; omega), if_pos c9]
      obtain ⟨k1, e1, F1, f1, g1⟩ := m_kept L (d + 9) c
      obtain ⟨k2, e2, t2, f2, g2⟩ := m_pass f1.2.1 d F1.1 (by rw [g1]; exact hw) (MFr_rl f1 rl) c9
      have F2 := MFS_town F1 t2 f2
      have f12 := MFr_trans f1 (MFr_MF f2)
      obtain ⟨h', e', c', f', g'⟩ := ih (i + 1) (Fk F (passS F.1.1 F.1.2 dt ds F.2.2.2.1)) k2 f2.2.1 (by omega) F2 (by rw [f12.2.2.1 23 (by decide)]; exact hw) (MFr_rl f12 rl)
      rw [e1, cV_some, e2, cV_some, nI_1, e']
      refine ⟨h', ?_, c', MFr_trans f12 f', ?_⟩
      · have : (Fk F (passS F.1.1 F.1.2 dt ds F.2.2.2.1)).2.2.2.1.2.2.1 = F.2.2.2.1.2.2.1 + 1 := passS_H
        rw [this, show F.2.2.2.1.2.2.1 + 1 + r = F.2.2.2.1.2.2.1 + (r + 1) by omega]
      · rw [g', g2, g1, ← nI_add, Int32.add_assoc]
        congr 2
        show bz (slipS F.1.1 F.1.2 dt F.2.2.2.1) = nI (slipS F.1.1 F.1.2 dt F.2.2.2.1).toNat
        cases slipS F.1.1 F.1.2 dt F.2.2.2.1 <;> rfl
    · have e9 : F.2.2.2.1.2.2.1 = 9999 := by omega
      rw [if_pos (show nI F.2.2.2.1.2.2.1 = 9999 by rw [e9]; rfl), if_neg c9, if_neg (by omega)]
      exact ⟨h, rfl, c, MFr_refl L, (Int32.add_zero _).symm⟩
/-! the relation -/
theorem NOW_F {h : MH} {n : Nat} {W P SN : Nat → Nat} {H X wr tn : Nat} (N : NOW h n W P SN H X wr tn) : ∃ F : FS, CFS h F ∧ MFS h F ∧ OKF F ∧ F.1 = (n, W) ∧ F.2.2.2.1 = (P, SN, H, X, wr, gI h 15) := by
  obtain ⟨⟨⟨p1, p2, p3, p4, p5, p6⟩, ⟨q1, q2, q3⟩, r3, ⟨g1, g2⟩, -, -, -, ⟨fst, cnt, pk, r8⟩⟩, -⟩ := N
  have told := r8.2.2.2.2.2
  obtain ⟨a1, a2, a3⟩ := R8_to r8
  have hT : ∀ p, p < n → gI h 68 (26 + p) = nI (ix (gI h 68 (26 + p))) ∧ ix (gI h 68 (26 + p)) ≤ 8 := by
    intro p hp
    obtain ⟨c, hc, e⟩ := told p hp
    rw [e, ix_nI (by omega)]
    exact ⟨rfl, hc⟩
  refine ⟨((n, W), gI h 13, (fun p => ix (gI h 68 (26 + p))), (P, SN, H, X, wr, gI h 15), (cnt, fun k j => gI h 68 (58 + 47 * k + j))), ⟨⟨p1, p2, fun p hp => have hp' : p < n := hp; ⟨(p4 p (by omega)).1, (p4 p (by omega)).2.2.1⟩, fun p hp => ⟨(p5 p hp).1, (p5 p hp).2.2.1⟩, fun c hc => ⟨(p6 c hc).1, (p6 c hc).2.2⟩, ⟨q1.1, q1.2.2⟩, ⟨q2.1, q2.2.2⟩, ⟨q3.1, q3.2.2⟩, fun k hk => rfl⟩, fun p hp => (p4 p hp).1, fun p hp => rfl, a1⟩, ⟨⟨p1, p3, fun p hp => have hp' : p < n := hp; ⟨(p4 p (by omega)).2.1, (p4 p (by omega)).2.2.1⟩, fun p hp => ⟨(p5 p hp).2.1, (p5 p hp).2.2.1⟩, fun c hc => ⟨(p6 c hc).2.1, (p6 c hc).2.2⟩, q1.2, q2.2, fun _ => q3.2, fun _ k hk => (r3 k hk).symm⟩, fun p hp => (p4 p hp).2.1, fun p hp => ?_, fun p hp => (hT p hp).1, a2⟩, ⟨fun p hp => (p4 p (by have : p < n := hp; omega)).2.2.2 hp, fun p hp => (p4 p hp).2.2.1, fun p hp hk => (p5 p hp).2.2.2 hk, fun p hp => (g1 p hp).2, fun p hp => (hT p hp).2, ?_⟩, rfl, rfl⟩
  · dsimp only
    by_cases c : p < n
    · rw [if_pos c]; exact (g1 p c).1.symm
    · rw [if_neg c]; exact g2 p (by omega) hp
  · refine HI_congr (fun p hp => (hT p hp).1.symm) (fun p hp => ?_) a3
    exact ((p5 p (by have : p < n := hp; omega)).2.1).symm
def zA : List Nat := [10, 11, 12, 13, 14, 15, 16, 17, 18, 67, 68, 73, 75]
theorem KEPT_z {h h' : MH} {Z : List Nat} (s : sm Z h h') (hz : (Z.all fun a => !(decide (26 ≤ a ∧ a ≤ 42) || Nat.beq a 69 || Nat.beq a 23)) = true) {tn : Nat} (K : KEPT h tn) : KEPT h' tn := by
  obtain ⟨n, W, P, SN, H, X, wr, tk, B, h1, h2, h3⟩ := K
  have nz : ∀ a, (26 ≤ a ∧ a ≤ 42) ∨ a = 69 ∨ a = 23 → ¬ a ∈ Z := by
    intro a ha hm
    have := List.all_eq_true.mp hz a hm
    rcases ha with ha | rfl | rfl
    · simp [ha] at this
    · simp at this
    · simp at this
  have g : ∀ a, (26 ≤ a ∧ a ≤ 42) ∨ a = 69 ∨ a = 23 → gI h' a = gI h a := fun a ha => sm_gI s (nz a ha) (by omega)
  have gr : ∀ a, (26 ≤ a ∧ a ≤ 42) ∨ a = 69 ∨ a = 23 → gR h' a = gR h a := fun a ha => sm_gR s (Or.inl (nz a ha))
  refine ⟨n, W, P, SN, H, X, wr, tk, BOR_eq (fun j hj => g _ ?_) (g 69 (by omega)) (gr _ (by omega)) (gr _ (by omega)) B, h1, ?_, fun i hi => ?_⟩
  · have : j ≤ 16 := by
      revert j
      decide
    omega
  · rw [gr 23 (by omega), gr 40 (by omega)]
    exact h2
  · rw [gr 23 (by omega), gr 40 (by omega), sm_kd s, sm_kd s]
    exact h3 i hi
theorem INV_F {c : Nat} {h h1 h2 : MH} {n : Nat} {W P SN : Nat → Nat} {H X wr tn : Nat} (N : NOW h n W P SN H X wr tn) (K : KEPT h tn) (M : MISC h) (R : ROOM c h) {F : FS} (cf : CFS h1 F) (f1 : CFr h h1) (mf : MFS h2 F) (f2 : MFr h1 h2) (ok : OKF F) (hn : n ≤ F.1.1) : INV c h2 := by
  have s1 : sm zA h h1 := sm_mono f1.1 (by decide)
  have s2 : sm zA h1 h2 := sm_mono f2.1 (by decide)
  have s := sm_trans s1 s2
  have g : ∀ a, ¬ a ∈ zA → a < 84 → gI h2 a = gI h a := fun a ha hb => sm_gI s ha hb
  have gc : ∀ a, ¬ a ∈ mZ → a < 84 → gI h2 a = gI h1 a := fun a ha hb => sm_gI f2.1 ha hb
  have gm : gI h1 68 = gI h 68 := sm_gI f1.1 (by decide) (by decide)
  have gm7 : gI h1 67 = gI h 67 := sm_gI f1.1 (by decide) (by decide)
  have k68 : ∀ k, (k = 1 ∨ k = 2 ∨ k = 3 ∨ k = 5 ∨ 34 ≤ k ∧ k < 58) → gI h2 68 k = gI h 68 k := fun k hk => by rw [f2.2.2.2 k hk, gm]
  have k67 : ∀ k, ¬ k = 24 → gI h2 67 k = gI h 67 k := fun k hk => by rw [f2.2.2.1 k hk, gm7]
  obtain ⟨⟨-, -, -, -, ⟨hn5, HW, HG, r5⟩, r6, ⟨sc, r7⟩, -⟩, txs⟩ := N
  obtain ⟨t, w4, gl, rc⟩ := cf
  obtain ⟨mt, mw, mg, mtl, rm⟩ := mf
  obtain ⟨o1, o2, o3, o4, o5, o6⟩ := ok
  obtain ⟨t0, t1, t2, t3, t4, t5, t6, t7, t8⟩ := t
  obtain ⟨m0, m1, m2, m3, m4, m5, m6, m7, m8⟩ := mt
  have e9 : gI h2 9 = gI h 9 := g 9 (by decide) (by decide)
  have B : BOR h2 9 68 F.1.1 F.1.2 F.2.2.2.1.1 F.2.2.2.1.2.1 F.2.2.2.1.2.2.1 F.2.2.2.1.2.2.2.1 F.2.2.2.1.2.2.2.2.1 tn := by
    refine ⟨⟨t0, ?_, m1, fun p hp => ⟨?_, mw p hp, o2 p hp, o1 p⟩, fun p hp => ⟨?_, m3 p hp |>.1, (m3 p hp).2, o3 p hp⟩, fun c hc => ⟨?_, m4 c hc⟩⟩, ⟨⟨?_, m5⟩, ⟨?_, m6⟩, ⟨?_, m7 rfl⟩⟩, fun k hk => ?_, ⟨fun p hp => ⟨?_, ?_⟩, fun p hk hp => ?_⟩, ⟨hn5, HW, HG, ?_⟩, ?_, ⟨sc, ?_⟩, ?_⟩
    · rw [gc _ (by decide) (by decide)]; exact t1
    · rw [gc _ (by decide) (by decide)]; exact w4 p hp
    · rw [gc _ (by decide) (by decide)]; exact (t3 p hp).1
    · rw [gc _ (by decide) (by decide)]; exact (t4 c hc).1
    · rw [gc _ (by decide) (by decide)]; exact t5.1
    · rw [gc _ (by decide) (by decide)]; exact t6.1
    · rw [gc _ (by decide) (by decide)]; exact t7.1
    · rw [gc _ (by decide) (by decide), m8 rfl k hk]; exact t8 k hk
    · rw [gc _ (by decide) (by decide), mg p (by omega), if_pos hp]; exact gl p hp
    · rw [gc _ (by decide) (by decide)]
      have : gI h1 (9 + 4) p = F.2.1 p := gl p hp
      rw [this]; exact o4 p hp
    · rw [mg p hp, if_neg (by omega)]
    · rw [g (9 + 10) (by decide) (by decide), g (9 + 11) (by decide) (by decide), g (9 + 12) (by decide) (by decide)]
      obtain ⟨y0, y1, y2, y3⟩ := r5
      refine ⟨y0, y1, by rw [k68 1 (by omega)]; exact y2, fun k hk => ?_⟩
      rw [k68 _ (by omega), k68 _ (by omega)]
      exact y3 k hk
    · have e10 : gR h2 10 = gR h 10 := (sm_gR f2.1 (Or.inl (by decide))).trans f1.2.1
      have e23 : gR h2 (9 + 14) = gR h (9 + 14) := sm_gR s (Or.inl (by decide))
      rw [e9, show gR h2 (9 + 1) = gR h (9 + 1) from e10, e23]
      obtain ⟨y0, y1, y2, y3⟩ := r6
      refine ⟨y0, y1, by rw [k68 2 (by omega)]; exact y2, ?_⟩
      rw [k68 3 (by omega)]
      exact y3
    · rw [e9, g (9 + 15) (by decide) (by decide), g (9 + 16) (by decide) (by decide)]
      obtain ⟨y0, y1, y2, y3⟩ := r7
      refine ⟨y0, y1, by rw [k68 5 (by omega)]; exact y2, fun k hk => ?_⟩
      rw [k68 _ (by omega), k68 _ (by omega)]
      obtain ⟨p, z, z1, z2, z3⟩ := y3 k hk
      exact ⟨p, z, by omega, z2, z3⟩
    · rw [gc (9 + 8) (by decide) (by decide), gc (9 + 9) (by decide) (by decide)]
      refine R8_of t0 rc rm (HI_congr (fun p hp => ?_) (fun p hp => ?_) o6)
      · exact mtl p hp
      · exact (m3 p (by omega)).1
  refine ⟨f2.2.1, ⟨F.1.1, F.1.2, F.2.2.2.1.1, F.2.2.2.1.2.1, F.2.2.2.1.2.2.1, F.2.2.2.1.2.2.2.1, F.2.2.2.1.2.2.2.2.1, tn, ⟨B, ?_⟩, KEPT_z s (by decide) K⟩, ?_, ROOM_sm s R⟩
  · rw [sm_gR s (a := 23) (Or.inl (by decide))]
    exact fun t ht => txtR_sm s (by decide) (txs t ht)
  · unfold MISC
    rw [g 50 (by decide) (by decide), g 51 (by decide) (by decide), g 71 (by decide) (by decide), g 55 (by decide) (by decide), k67 4 (by decide), k67 5 (by decide), k67 6 (by decide), k67 23 (by decide)]
    exact M
theorem API_F {c : Nat} {h : MH} (I : INV c h) {f g : MH → Option (Value × MH)} (hf : ∀ (F : FS) (dt ds : Option Den), CFS h F → OKF F → rlC h (gR h 10 9) dt ds → ∃ v F', (∃ h1, f h = some (.int v, h1) ∧ CFS h1 F' ∧ CFr h h1) ∧ (∀ h1, lay h1 → MFS h1 F → rlM h1 (gI h1 68 3) dt ds → gI h1 67 23 = 1 → ∃ h2, g h1 = some (.int v, h2) ∧ MFS h2 F' ∧ MFr h1 h2) ∧ OKF F' ∧ F.1.1 ≤ F'.1.1) : AGI c f g h := by
  obtain ⟨L, ⟨n, W, P, SN, H, X, wr, tn, N, K⟩, M, R⟩ := I
  obtain ⟨F, cf, mf, ok, eF, -⟩ := NOW_F N
  obtain ⟨dt, ds, rc, rm⟩ := NOW_rl N
  obtain ⟨v, F', ⟨h1, e1, cf', fr⟩, hm, ok', hn⟩ := hf F dt ds cf ok rc
  have g68 : gI h1 68 = gI h 68 := sm_gI fr.1 (by decide) (by decide)
  have mf1 : MFS h1 F := by
    unfold MFS MTh
    rw [g68]
    exact mf
  have rm1 : rlM h1 (gI h1 68 3) dt ds := by
    rw [g68]
    exact rlM_sm' fr.1 (by decide) rm
  obtain ⟨h2, e2, mf', fr2⟩ := hm h1 fr.2.2 mf1 rm1 (by rw [sm_gI fr.1 (by decide) (by decide)]; exact M.2.2.2.2)
  refine ⟨v, h1, h2, e1, e2, INV_F N K M R cf' fr mf' fr2 ok' ?_⟩
  have : F.1.1 = n := by rw [eF]
  omega
theorem getD_n {F : FS} {o : Option FS} (h : ∀ F', o = some F' → F'.1 = F.1) : (o.getD F).1 = F.1 := by
  cases o with
  | none => rfl
  | some F' => exact h F' rfl
theorem OKF_get {F : FS} {o : Option TS} (hn : F.1.1 ≤ 4) (hq : F.2.2.2.2.1 ≤ 30) (ok : OKF F) (b : TSb F.2.2.2.1) (hs : ∀ s', o = some s' → ∀ p, F.1.1 ≤ p → s'.1 p = F.2.2.2.1.1 p) : OKF ((o.map (Fk F)).getD F) := by
  cases o with
  | none => exact ok
  | some s' => exact OKF_k hn hq ok b (fun p hp hk => by rw [hs s' rfl p hk]; exact ok.2.2.1 p hp hk)
theorem walS_ok {dt : Option Den} {F : FS} {p : Nat} {r : Bool} (hn : F.1.1 ≤ 4) (hq : F.2.2.2.2.1 ≤ 30) (ok : OKF F) (b : TSb F.2.2.2.1) : OKF ((walS dt F p r).getD F) ∧ ((walS dt F p r).getD F).1 = F.1 := by
  unfold walS
  by_cases c : p < F.1.1
  · rw [if_pos c]
    refine ⟨OKF_get hn hq ok b (fun s' e k hk => goS_P c e hk), ?_⟩
    cases goS F.1.1 F.1.2 dt F.2.2.2.1 p r <;> rfl
  · rw [if_neg c]
    exact ⟨ok, rfl⟩
theorem parS_ok {dt : Option Den} {F : FS} {p p2 : Nat} {r r2 : Bool} (hn : F.1.1 ≤ 4) (hq : F.2.2.2.2.1 ≤ 30) (ok : OKF F) (b : TSb F.2.2.2.1) : OKF ((parS dt F p r p2 r2).getD F) ∧ ((parS dt F p r p2 r2).getD F).1 = F.1 := by
  unfold parS
  by_cases c : p < F.1.1 ∧ p2 < F.1.1
  · rw [if_pos c]
    refine ⟨OKF_get hn hq ok b (fun s' e k hk => pairS_P c.1 c.2 e hk), ?_⟩
    cases pairS F.1.1 F.1.2 dt F.2.2.2.1 p r p2 r2 <;> rfl
  · rw [if_neg c]
    exact ⟨ok, rfl⟩
theorem shoS_ok {dt : Option Den} {F : FS} {x k : Nat} (hn : F.1.1 ≤ 4) (hq : F.2.2.2.2.1 ≤ 30) (ok : OKF F) (b : TSb F.2.2.2.1) : OKF ((shoS dt F x k).getD F) ∧ ((shoS dt F x k).getD F).1 = F.1 := by
  unfold shoS
  refine ⟨OKF_get hn hq ok b (fun s' e p hk => by rw [clearS_P e]), ?_⟩
  cases clearS F.1.1 F.1.2 dt F.2.2.2.1 x k <;> rfl
theorem hrs_1 {dt ds : Option Den} : ∀ (r : Nat) (F : FS), (hrs dt ds r F).1.1 = F.1 := by
  intro r
  induction r with
  | zero => intro F; rfl
  | succ r ih =>
    intro F
    rw [hrs]
    split
    · exact ih _
    · rfl
theorem mrt_oz {α : Type} (o : Option α) : mrt 1 (oz o) := by cases o with
  | none => exact Or.inl rfl
  | some _ => exact Or.inr rfl
section API6
theorem A_walk {c : Nat} {h : MH} (I : INV c h) (d : Nat) (a b : Int32) : AGI c (F_X10_walk (d + 12) a b) (F_X11_walk (d + 12) a b) h := by
  have L := I.1
  refine API_F I (fun F dt ds cf ok rl => ?_)
  obtain ⟨p, hp⟩ := argP_ex a
  obtain ⟨h1, e1, cf', fr⟩ := c_walks L (d + 5) cf rl hp b
  obtain ⟨ok', e'⟩ := walS_ok (dt := dt) (p := p) (r := tb b) cf.1.1 (RC_30 cf.2.2.2) ok (CT_b cf.1)
  refine ⟨_, _, ⟨h1, ?_, cf', fr⟩, fun h1 L1 mf rm _ => m_walk L1 (d + 1) mf rm hp b, ok', by rw [e']; exact Nat.le_refl _⟩
  rw [S_X10_walk L (d + 11), e1, cI_some, ck_pos (mrt_oz _)]
theorem A_pair {c : Nat} {h : MH} (I : INV c h) (d : Nat) (a b a2 b2 : Int32) : AGI c (F_X10_pair (d + 12) a b a2 b2) (F_X11_pair (d + 12) a b a2 b2) h := by
  have L := I.1
  refine API_F I (fun F dt ds cf ok rl => ?_)
  obtain ⟨p, hp⟩ := argP_ex a
  obtain ⟨p2, hp2⟩ := argP_ex a2
  obtain ⟨h1, e1, cf', fr⟩ := c_walksPaired L (d + 5) cf rl hp hp2 b b2
  obtain ⟨ok', e'⟩ := parS_ok (dt := dt) (p := p) (p2 := p2) (r := tb b) (r2 := tb b2) cf.1.1 (RC_30 cf.2.2.2) ok (CT_b cf.1)
  refine ⟨_, _, ⟨h1, ?_, cf', fr⟩, fun h1 L1 mf rm _ => m_pair L1 (d + 1) mf rm hp hp2 b b2, ok', by rw [e']; exact Nat.le_refl _⟩
  rw [S_X10_pair L (d + 11), e1, cI_some, ck_pos (mrt_oz _)]
theorem A_shovel {c : Nat} {h : MH} (I : INV c h) (d : Nat) (a b : Int32) : AGI c (F_X10_shovel (d + 12) a b) (F_X11_shovel (d + 12) a b) h := by
  have L := I.1
  have L' := L
  rcases in_cases (a := a) (N := 9) (by omega) with ⟨e, hne⟩ | ⟨x, hx, rfl, e⟩
  · have e' : bI (0 ≤ a ∧ a ≤ 8) = 0 := e
    refine ⟨0, h, h, ?_, ?_, I⟩
    · rw [S_X10_shovel L (d + 11), c_within L, cI_some, e', if_pos rfl]
    · rw [S_X11_shovel L (d + 11), S_X11_canShovel L (d + 10), m_isPlace L, cI_some, bI_neg hne, if_pos rfl, cI_some, if_pos rfl]
  have e' : bI (0 ≤ nI x ∧ nI x ≤ 8) = 1 := e
  by_cases hb : ¬ (1 ≤ b ∧ b ≤ 9)
  · refine ⟨0, h, h, ?_, ?_, I⟩
    · rw [S_X10_shovel L (d + 11), c_within L, cI_some, e', if_neg i10, c_within L, cI_some, bI_neg hb, if_pos rfl]
    · rw [S_X11_shovel L (d + 11), S_X11_canShovel L (d + 10), m_isPlace L, cI_some, bI_pos (ib_nI hx (by omega)), if_neg i10, m_isIn L, cI_some, bI_neg hb, if_pos rfl, cI_some, if_pos rfl]
  replace hb := Classical.not_not.mp hb
  obtain ⟨k, hk1, hk, rfl⟩ : ∃ k, 1 ≤ k ∧ k ≤ 9 ∧ b = nI k := by
    obtain ⟨j, hj, rfl⟩ := nI_of (x := b) (fun q => by
      have h1 := hb.1
      rw [Int32.le_iff_toInt_le] at h1
      rw [Int32.lt_iff_toInt_lt] at q
      have e0 : (0 : Int32).toInt = 0 := by decide
      have e1 : (1 : Int32).toInt = 1 := by decide
      omega)
    exact ⟨j, (nILr hj (by omega)).mp hb.1, (nIL hj (by omega)).mp hb.2, rfl⟩
  refine API_F I (fun F dt ds cf ok rl => ?_)
  obtain ⟨h1, e1, cf', fr⟩ := c_shovels L (d + 5) cf rl hx hk
  obtain ⟨ok', e''⟩ := shoS_ok (dt := dt) (x := x) (k := k) cf.1.1 (RC_30 cf.2.2.2) ok (CT_b cf.1)
  refine ⟨_, _, ⟨h1, ?_, cf', fr⟩, fun h1 L1 mf rm _ => m_shovel L1 (d + 1) mf rm hx hk1 hk, ok', by rw [e'']; exact Nat.le_refl _⟩
  rw [S_X10_shovel L (d + 11), c_within L, cI_some, e', if_neg i10, c_within L, cI_some, bI_pos hb, if_neg i10, e1, cI_some, ck_pos (mrt_oz _)]
end API6
/-- the reference's hours, from the counter on -/
theorem m_arePassed {dt ds : Option Den} {h : MH} (L : lay h) (d : Nat) {m : Nat} (hm : m ≤ 60) {F : FS} (c : MFS h F) (hw : gI h 67 23 = 1) (rl : rlM h (gI h 68 3) dt ds) : ∃ h', F_X11_arePassed (d + 11) (nI m) h = some (.int (if F.2.2.2.1.2.2.1 + m ≤ 9999 then 1 else 0), h') ∧ MFS h' (hrs dt ds m F).1 ∧ MFr h h' ∧ gI h' 67 24 = nI (hrs dt ds m F).2 := by
  have f1 : MFr h (sI h 67 24 0) := ⟨sm_rI (Or.inl ⟨by decide, by decide⟩), layI L (by decide), fun k hk => by rw [gI_sIs, up_o _ _ hk], fun k _ => by rw [gI_sIo _ _ _ _ _ (by decide)]⟩
  have c1 : MFS (sI h 67 24 0) F := by
    unfold MFS MTh
    rw [gI_sIo _ _ _ _ _ (by decide)]
    exact c
  obtain ⟨h', e', c', f', g'⟩ := m_passed (dt := dt) (ds := ds) d m hm m 0 F _ f1.2.1 (by omega) c1 (by rw [f1.2.2.1 23 (by decide)]; exact hw) (MFr_rl f1 rl)
  refine ⟨h', ?_, c', MFr_trans f1 f', ?_⟩
  · rw [S_X11_arePassed L (d + 10), lt_def]
    exact e'
  · rw [g', gI_sIs, up_s]
    exact Int32.zero_add _
theorem arg_1 {a : Int32} {N : Nat} (hN : N < 2 ^ 30) (h : 1 ≤ a ∧ a ≤ nI N) : ∃ k, 1 ≤ k ∧ k ≤ N ∧ a = nI k := by
  obtain ⟨j, hj, rfl⟩ := nI_of (x := a) (fun q => by
    have h1 := h.1
    rw [Int32.le_iff_toInt_le] at h1
    rw [Int32.lt_iff_toInt_lt] at q
    have e0 : (0 : Int32).toInt = 0 := by decide
    have e1 : (1 : Int32).toInt = 1 := by decide
    omega)
  exact ⟨j, (nILr hj (by omega)).mp h.1, (nI_leI hj (by omega)).mp h.2, rfl⟩
theorem A_hour {c : Nat} {h : MH} (I : INV c h) (d : Nat) (a : Int32) : AGI c (F_X10_hour (d + 12) a) (F_X11_hour (d + 12) a) h := by
  have L := I.1
  by_cases ha : ¬ (1 ≤ a ∧ a ≤ 60)
  · refine ⟨-1, h, h, ?_, ?_, I⟩
    · rw [S_X10_hour L (d + 11), c_within L, cI_some, bI_neg ha, if_pos rfl]
    · rw [S_X11_hour L (d + 11), m_isIn L, cI_some, bI_neg ha, if_pos rfl]
  replace ha := Classical.not_not.mp ha
  obtain ⟨m, hm1, hm, rfl⟩ := arg_1 (N := 60) (by omega) ha
  refine API_F I (fun F dt ds cf ok rl => ?_)
  have tH : gI h 10 5 = nI F.2.2.2.1.2.2.1 ∧ F.2.2.2.1.2.2.1 ≤ 9999 := cf.1.2.2.2.2.2.1
  by_cases c9 : F.2.2.2.1.2.2.1 + m ≤ 9999
  · obtain ⟨h1, e1, cf', fr, ok'⟩ := c_waits (dt := dt) (ds := ds) (d + 5) m hm m 0 0 F h L (by omega) cf ok rl
    refine ⟨nI (0 + (hrs dt ds m F).2), (hrs dt ds m F).1, ⟨h1, ?_, cf', fr⟩, fun k1 L1 mf rm hw => ?_, ok', by rw [hrs_1]; exact Nat.le_refl _⟩
    · rw [S_X10_hour L (d + 11), c_within L, cI_some, bI_pos ha, if_neg i10, tH.1, nI_add, if_pos ((nIL (by omega) (by omega)).mpr c9), S_X0_waits L (d + 10)]
      have e1' : G_X0_waits_4 (d + 10) (nI m) 0 0 h = _ := e1
      rw [e1', cI_some]
    · obtain ⟨h2, e2, mf', fr2, g2⟩ := m_arePassed (dt := dt) (ds := ds) L1 d hm mf hw rm
      refine ⟨h2, ?_, mf', fr2⟩
      rw [S_X11_hour L1 (d + 11), m_isIn L1, cI_some, bI_pos ha, if_neg i10, mf.1.2.2.2.2.2.1.1, nI_add, if_pos ((nIL (by omega) (by omega)).mpr c9), e2, cI_some, if_pos c9, if_neg i10, g2, Nat.zero_add]
  · refine ⟨-1, F, ⟨h, ?_, cf, CFr_refl L⟩, fun k1 L1 mf rm hw => ⟨k1, ?_, mf, MFr_refl L1⟩, ok, Nat.le_refl _⟩
    · rw [S_X10_hour L (d + 11), c_within L, cI_some, bI_pos ha, if_neg i10, tH.1, nI_add, if_neg (fun q => c9 ((nIL (by omega) (by omega)).mp q))]
    · rw [S_X11_hour L1 (d + 11), m_isIn L1, cI_some, bI_pos ha, if_neg i10, mf.1.2.2.2.2.2.1.1, nI_add, if_neg (fun q => c9 ((nIL (by omega) (by omega)).mp q))]
