--deps:19.lay 21.facts 22.00.names 22.01.eq 22.02.eq 22.03.eq 22.04.eq 22.05.eq 22.06.eq 22.07.eq 22.08.eq 22.09.eq 22.10.eq 22.11.eq 22.12.eq 22.13.eq 22.14.eq 22.15.eq 22.16.eq 22.17.eq 22.18.eq 22.19.eq 22.20.eq 22.21.eq 22.22.eq 22.23.eq 23.num 24.town 25.evc 26.evm 27.law 28.says
/-! THE RELATION of the class's cells and the reference's row -/
set_option linter.unusedSectionVars false
/-- people, weights, places, snow -/
def R1 (tq w s sn a : Nat → Int32) (n : Nat) (W P SN : Nat → Nat) : Prop := n ≤ 4 ∧ tq 0 = nI n ∧ a 0 = nI n ∧ (∀ p, p < 4 → w p = nI (W p) ∧ a (22 + p) = nI (W p) ∧ W p ≤ 9 ∧ (p < n → 1 ≤ W p)) ∧ (∀ p, p < 4 → s p = nI (P p) ∧ a (9 + p) = nI (P p) ∧ P p ≤ 8 ∧ (n ≤ p → P p = 0)) ∧ (∀ c, c < 9 → sn c = nI (SN c) ∧ a (13 + c) = nI (SN c) ∧ SN c ≤ 9)
/-- hour, draw, lines written -/
def R2 (tq a : Nat → Int32) (H X wr : Nat) : Prop := (tq 5 = nI H ∧ a 6 = nI H ∧ H ≤ 9999) ∧ (tq 6 = nI X ∧ a 7 = nI X ∧ X ≤ 30840) ∧ (tq 8 = nI wr ∧ a 8 = nI wr ∧ wr ≤ 30)
def R3 (e a : Nat → Int32) : Prop := ∀ k, k < 30 → e k = a (1468 + k)
def R4 (g a : Nat → Int32) (n : Nat) : Prop := (∀ p, p < n → g p = a (30 + p) ∧ (g p = -1 ∨ ∃ c, c ≤ 8 ∧ g p = nI c)) ∧ (∀ p, n ≤ p → p < 4 → a (30 + p) = -1)
def R5 (hc hw hg a : Nat → Int32) (hn : Nat) (HW HG : Nat → Nat) : Prop := hn ≤ 4 ∧ hc 3 = nI hn ∧ a 1 = nI hn ∧ ∀ k, k < hn → (hw k = nI (HW k) ∧ a (34 + 2 * k) = nI (HW k) ∧ 1 ≤ HW k ∧ HW k ≤ 9) ∧ (hg k = nI (HG k) ∧ a (35 + 2 * k) = nI (HG k) ∧ HG k ≤ 99)
def R6 (bq a : Nat → Int32) (bt : Nat → Nat) (law tn : Nat) : Prop := tn ≤ 4 ∧ bq 4 = nI tn ∧ a 2 = nI tn ∧ (bq 5 = -1 ∧ a 3 = -1 ∧ law = 0 ∨ ∃ t, t < tn ∧ bq 5 = nI t ∧ a 3 = nI t ∧ law = bt t)
def R7 (bq sp ss a : Nat → Int32) (n sc : Nat) : Prop := sc ≤ 8 ∧ bq 8 = nI sc ∧ a 5 = nI sc ∧ ∀ k, k < sc → ∃ p s, p < n ∧ s ≤ 3 ∧ sp k = nI p ∧ a (42 + 2 * k) = nI p ∧ ss k = nI s ∧ a (43 + 2 * k) = nI s
/-- a row of a step -/
def stepOK (a : Nat → Int32) (x m : Nat) : Prop := (∃ H, H ≤ 9999 ∧ a (x + 1) = nI H) ∧ (∃ X, X ≤ 30840 ∧ a (x + 2) = nI X) ∧ (∃ w, w ≤ 30 ∧ a (x + 3) = nI w) ∧ (∀ p, p < 4 → ∃ c, c ≤ 8 ∧ a (x + 4 + p) = nI c ∧ (m ≤ p → c = 0)) ∧ (∀ c, c < 9 → ∃ s, s ≤ 9 ∧ a (x + 8 + c) = nI s)
def R8 (st rw a : Nat → Int32) (n fst cnt : Nat) (pk : Nat → Nat) : Prop := (fst < 31 ∧ cnt ≤ 30 ∧ st 1 = nI fst ∧ st 2 = nI cnt ∧ a 4 = nI cnt) ∧ (∀ k, k < cnt → ∀ j, j < 47 → rw ((fst + k) % 31 * 47 + j) = a (58 + 47 * k + j)) ∧ (∀ k, k < cnt → a (58 + 47 * k) = nI (pk k) ∧ pk k ≤ n ∧ stepOK a (58 + 47 * k) (pk k)) ∧ (∀ k, k + 1 < cnt → ∀ p, pk k ≤ p → p < pk (k + 1) → a (58 + 47 * (k + 1) + 4 + p) = a (26 + p)) ∧ (∀ k, k + 1 = cnt → ∀ p, pk k ≤ p → p < n → a (9 + p) = a (26 + p)) ∧ (∀ p, p < n → ∃ c, c ≤ 8 ∧ a (26 + p) = nI c)
/-- a borough b of the class, a row r of the reference -/
def BOR (h : MH) (b r n : Nat) (W P SN : Nat → Nat) (H X wr tn : Nat) : Prop := R1 (gI h (b + 1)) (gI h (b + 2)) (gI h (b + 3)) (gI h (b + 5)) (gI h r) n W P SN ∧ R2 (gI h (b + 1)) (gI h r) H X wr ∧ R3 (gI h (b + 6)) (gI h r) ∧ R4 (gI h (b + 4)) (gI h r) n ∧ (∃ hn HW HG, R5 (gI h (b + 10)) (gI h (b + 11)) (gI h (b + 12)) (gI h r) hn HW HG) ∧ R6 (gI h b) (gI h r) (gR h (b + 14)) (gR h (b + 1) 9) tn ∧ (∃ sc, R7 (gI h b) (gI h (b + 15)) (gI h (b + 16)) (gI h r) n sc) ∧ (∃ fst cnt pk, R8 (gI h (b + 8)) (gI h (b + 9)) (gI h r) n fst cnt pk)
/-- a text: the class's r, the reference's number t: clauses, laws -/
def clsA (h : MH) (a cnt : Nat) : Prop := kd h a = 20 ∧ ln h a = cnt ∧ 84 ≤ a ∧ ¬ stk h a
def txtR (h : MH) (r t : Nat) : Prop := ∃ (dt ds : Option Den) (cnt : Nat) (K F S : Nat → Nat), txC h r dt ds ∧ (cnt ≤ 24 ∧ gI h 70 (681 * t) = nI cnt ∧ lwMO h 4 t cnt 0 dt ∧ lwMO h 7 t cnt 1 ds) ∧ (clsA h (gR h r 2) cnt ∧ clsA h (gR h r 3) cnt ∧ clsA h (gR h r 4) cnt) ∧ ∀ k, k < cnt → (K k ≤ 7 ∧ gI h (gR h r 2) k = nI (300 + K k) ∧ gI h 70 (681 * t + 3 * k + 1) = nI (K k)) ∧ (2 ≤ K k → gI h (gR h r 3) k = nI (F k) ∧ gI h 70 (681 * t + 3 * k + 2) = nI (F k)) ∧ (K k = 2 ∨ K k = 3 ∨ K k = 6 → gI h (gR h r 4) k = nI (S k) ∧ gI h 70 (681 * t + 3 * k + 3) = nI (S k) ∧ S k ≤ 8) ∧ (K k = 2 → 1 ≤ F k ∧ F k ≤ 9) ∧ (K k = 3 → F k ≤ 3) ∧ (K k = 4 → F k ≤ 3) ∧ (K k = 5 → F k ≤ 3) ∧ (K k = 6 → 1 ≤ F k ∧ F k ≤ 9) ∧ (K k = 7 → 1 ≤ F k ∧ F k ≤ 60)
def MISC (h : MH) : Prop := (∃ len, len ≤ 300 ∧ gI h 50 1 = nI len ∧ gI h 67 4 = nI len) ∧ (∀ k, k < 300 → gI h 51 k = gI h 71 k ∧ ∃ b, b < 256 ∧ gI h 51 k = nI b) ∧ gI h 55 11 = gI h 67 5 ∧ gI h 55 12 = gI h 67 6 ∧ gI h 67 23 = 1
def ROOM (c : Nat) (h : MH) : Prop := mN h ≤ 84 + 20 * c ∧ mS h ≤ 60000 + 2000 * c
def NOW (h : MH) (n : Nat) (W P SN : Nat → Nat) (H X wr tn : Nat) : Prop := BOR h 9 68 n W P SN H X wr tn ∧ (∀ t, t < tn → txtR h (gR h 23 t) t)
def KEPT (h : MH) (tn : Nat) : Prop := ∃ n W P SN H X wr tk, BOR h 26 69 n W P SN H X wr tk ∧ tk ≤ tn ∧ (∀ t, t < tk → gR h 40 t = gR h 23 t) ∧ ∀ i, i < 4 → (gR h 23 i = 0 ∨ kd h (gR h 23 i) = 9) ∧ (gR h 40 i = 0 ∨ kd h (gR h 40 i) = 9)
def INV (c : Nat) (h : MH) : Prop := lay h ∧ (∃ n W P SN H X wr tn, NOW h n W P SN H X wr tn ∧ KEPT h tn) ∧ MISC h ∧ ROOM c h
theorem R1_twn {h : MH} {q : Nat} {a : Nat → Int32} {n : Nat} {W P SN : Nat → Nat} (r : R1 (gI h q) (gI h (q + 1)) (gI h (q + 2)) (gI h (q + 4)) a n W P SN) : twn h q n W P SN := by
  obtain ⟨h1, h2, h3, h4, h5, h6⟩ := r
  exact ⟨h1, h2, fun p hp => ⟨(h4 p (by omega)).1, (h4 p (by omega)).2.2.1⟩, fun p hp => ⟨(h5 p (by omega)).1, (h5 p (by omega)).2.2.1⟩, fun c hc => ⟨(h6 c hc).1, (h6 c hc).2.2⟩⟩
theorem R1_mdl {h : MH} {tq w s sn : Nat → Int32} {n : Nat} {W P SN : Nat → Nat} (r : R1 tq w s sn (gI h 68) n W P SN) : mdl h n W P SN := by
  obtain ⟨h1, h2, h3, h4, h5, h6⟩ := r
  exact ⟨h1, h3, fun p hp => ⟨(h4 p (by omega)).2.1, (h4 p (by omega)).2.2.1⟩, fun p hp => ⟨(h5 p (by omega)).2.1, (h5 p (by omega)).2.2.1⟩, fun c hc => ⟨(h6 c hc).2.1, (h6 c hc).2.2⟩⟩
theorem NOW_t {h : MH} {n : Nat} {W P SN : Nat → Nat} {H X wr tn : Nat} (N : NOW h n W P SN H X wr tn) : twn h 10 n W P SN := R1_twn (q := 10) N.1.1
theorem NOW_m {h : MH} {n : Nat} {W P SN : Nat → Nat} {H X wr tn : Nat} (N : NOW h n W P SN H X wr tn) : mdl h n W P SN := R1_mdl N.1.1
/-- the scratch of questions -/
def SCR : List Nat := [16, 22, 43, 44, 45, 46, 47, 48, 49, 60, 61, 62, 63, 64, 65, 66, 73, 75, 76, 77, 78, 79, 80, 81, 82]
theorem BOR_eq {h h' : MH} {b r n : Nat} {W P SN : Nat → Nat} {H X wr tn : Nat} (e : ∀ j, j ∈ [0, 1, 2, 3, 4, 5, 6, 8, 9, 10, 11, 12, 15, 16] → gI h' (b + j) = gI h (b + j)) (er : gI h' r = gI h r) (e1 : gR h' (b + 1) = gR h (b + 1)) (e2 : gR h' (b + 14) = gR h (b + 14)) (B : BOR h b r n W P SN H X wr tn) : BOR h' b r n W P SN H X wr tn := by
  unfold BOR
  have e0 := e 0 (by decide)
  rw [Nat.add_zero] at e0
  rw [e0, e 1 (by decide), e 2 (by decide), e 3 (by decide), e 4 (by decide), e 5 (by decide), e 6 (by decide), e 8 (by decide), e 9 (by decide), e 10 (by decide), e 11 (by decide), e 12 (by decide), e 15 (by decide), e 16 (by decide), er, e1, e2]
  exact B
theorem lwM_eq {h h' : MH} (e : gI h' 70 = gI h 70) {N t k : Nat} {v : Den} (w : lwM h N t k v) : lwM h' N t k v := by
  unfold lwM
  rw [e]
  exact w
theorem clsA_sm {Z : List Nat} {h h' : MH} (s : sm Z h h') {a cnt : Nat} (w : clsA h a cnt) : clsA h' a cnt := ⟨(sm_kd s a).trans w.1, (sm_ln s a).trans w.2.1, w.2.2.1, fun q => w.2.2.2 ((sm_stk s a).mp q)⟩
theorem txtR_sm {Z : List Nat} {h h' : MH} (s : sm Z h h') (h70 : ¬ 70 ∈ Z) {r t : Nat} (w : txtR h r t) : txtR h' r t := by
  obtain ⟨dt, ds, cnt, K, F, S, h1, ⟨h2, h3, h4, h5⟩, ⟨c2, c3, c4⟩, h6⟩ := w
  have e70 : gI h' 70 = gI h 70 := sm_gI s h70 (by omega)
  have eR : gR h' r = gR h r := sm_gR s (Or.inr h1.2.1)
  have g : ∀ {a : Nat}, clsA h a cnt → gI h' a = gI h a := fun {a} c => s.2.2 a (Or.inr c.2.2.1) c.2.2.2
  refine ⟨dt, ds, cnt, K, F, S, txC_sm s h1, ⟨h2, by rw [e70]; exact h3, lwMO_eq e70 h4, lwMO_eq e70 h5⟩, ?_, ?_⟩
  · rw [eR]
    exact ⟨clsA_sm s c2, clsA_sm s c3, clsA_sm s c4⟩
  · rw [eR, e70, g c2, g c3, g c4]
    exact h6
theorem NOW_sm {h h' : MH} (s : sm SCR h h') {n : Nat} {W P SN : Nat → Nat} {H X wr tn : Nat} (N : NOW h n W P SN H X wr tn) : NOW h' n W P SN H X wr tn := by
  have g : ∀ a, ¬ a ∈ SCR → a < 84 → gI h' a = gI h a := fun a h1 h2 => sm_gI s h1 h2
  refine ⟨BOR_eq (fun j hj => ?_) (g 68 (by decide) (by decide)) (sm_gR s (Or.inl (by decide))) (sm_gR s (Or.inl (by decide))) N.1, ?_⟩
  · refine g _ ?_ ?_ <;> (revert j; decide)
  · rw [sm_gR s (a := 23) (Or.inl (by decide))]
    exact fun t ht => txtR_sm s (by decide) (N.2 t ht)
theorem KEPT_sm {h h' : MH} (s : sm SCR h h') {tn : Nat} (K : KEPT h tn) : KEPT h' tn := by
  obtain ⟨n, W, P, SN, H, X, wr, tk, B, h1, h2, h3⟩ := K
  have g : ∀ a, ¬ a ∈ SCR → a < 84 → gI h' a = gI h a := fun a h1 h2 => sm_gI s h1 h2
  refine ⟨n, W, P, SN, H, X, wr, tk, BOR_eq (fun j hj => ?_) (g 69 (by decide) (by decide)) (sm_gR s (Or.inl (by decide))) (sm_gR s (Or.inl (by decide))) B, h1, ?_, fun i hi => ?_⟩
  · refine g _ ?_ ?_ <;> (revert j; decide)
  · rw [sm_gR s (a := 23) (Or.inl (by decide)), sm_gR s (a := 40) (Or.inl (by decide))]
    exact h2
  · rw [sm_gR s (a := 23) (Or.inl (by decide)), sm_gR s (a := 40) (Or.inl (by decide)), sm_kd s, sm_kd s]
    exact h3 i hi
theorem MISC_sm {h h' : MH} (s : sm SCR h h') (M : MISC h) : MISC h' := by
  unfold MISC
  rw [sm_gI s (a := 50) (by decide) (by decide), sm_gI s (a := 67) (by decide) (by decide), sm_gI s (a := 51) (by decide) (by decide), sm_gI s (a := 71) (by decide) (by decide), sm_gI s (a := 55) (by decide) (by decide)]
  exact M
theorem ROOM_sm {Z : List Nat} {h h' : MH} (s : sm Z h h') {c : Nat} (R : ROOM c h) : ROOM c h' := by
  unfold ROOM mN mS
  rw [s.1]
  exact R
theorem INV_sm {h h' : MH} (s : sm SCR h h') (L : lay h') {c : Nat} (I : INV c h) : INV c h' := by
  obtain ⟨_, ⟨n, W, P, SN, H, X, wr, tn, N, K⟩, M, R⟩ := I
  exact ⟨L, ⟨n, W, P, SN, H, X, wr, tn, NOW_sm s N, KEPT_sm s K⟩, MISC_sm s M, ROOM_sm s R⟩
/-- both answer alike and keep the relation -/
def AGI (c : Nat) (f g : MH → Option (Value × MH)) (h : MH) : Prop := ∃ v h1 h2, f h = some (.int v, h1) ∧ g h1 = some (.int v, h2) ∧ INV c h2
/-- the laws that rule, on both sides -/
theorem NOW_rl {h : MH} {n : Nat} {W P SN : Nat → Nat} {H X wr tn : Nat} (N : NOW h n W P SN H X wr tn) : ∃ dt ds, rlC h (gR h 10 9) dt ds ∧ rlM h (gI h 68 3) dt ds := by
  obtain ⟨⟨-, -, -, -, -, ⟨h1, h2, h3, h4⟩, -⟩, hT⟩ := N
  rcases h4 with ⟨e1, e2, e3⟩ | ⟨t, ht, e1, e2, e3⟩
  · exact ⟨none, none, Or.inl ⟨e3, rfl, rfl⟩, Or.inl ⟨e2, rfl, rfl⟩⟩
  · obtain ⟨dt, ds, cnt, K, F, S, q1, q2, -⟩ := hT t ht
    have e3' : gR h 10 9 = gR h 23 t := e3
    refine ⟨dt, ds, Or.inr ?_, Or.inr ⟨t, by omega, e2, cnt, q2⟩⟩
    rw [e3']
    exact q1
theorem NOW_H {h : MH} {n : Nat} {W P SN : Nat → Nat} {H X wr tn : Nat} (N : NOW h n W P SN H X wr tn) : gI h 10 5 = nI H ∧ gI h 68 6 = nI H ∧ H ≤ 9999 := N.1.2.1.1
