--deps:19.lay 21.facts 22.00.names 22.01.eq 22.02.eq 22.03.eq 22.04.eq 22.05.eq 22.06.eq 22.07.eq 22.08.eq 22.09.eq 22.10.eq 22.11.eq 22.12.eq 22.13.eq 22.14.eq 22.15.eq 22.16.eq 22.17.eq 22.18.eq 22.19.eq 22.20.eq 22.21.eq 22.22.eq 22.23.eq 23.num 24.town 25.evc 26.evm 27.law 28.says 29.inv 66.script 71.yard 72.yard2 73.gx 74.gx2 75.gx3 76.reader 77.read2 78.read3 79.mtok 80.mpile 81.myard 82.msum 83.msum2 84.msum3 85.lexm 86.lexm2 87.lexc 88.cut 89.nums 90.keep 91.clause 92.ctext 93.mclause 94.mclause2 95.mtext
/-! TEXTS ARE KEPT, AND A NEW ONE IS ONE -/
set_option linter.unusedSectionVars false
theorem mvs_cg {t t' : Nat → Int32} {cb : Nat} {nm : Nat → Int32} {ld : Int64 → Int64} {s : MS} (e1 : t' (cb + 2 * s.1) = t (cb + 2 * s.1)) (e2 : t' (cb + 2 * s.1 + 1) = t (cb + 2 * s.1 + 1)) : mvs t' cb nm ld s = mvs t cb nm ld s := by
  unfold mvs
  rw [e1, e2]
theorem mvr_cg {t t' : Nat → Int32} {cb : Nat} {nm : Nat → Int32} {ld : Int64 → Int64} : ∀ (k : Nat) (s : MS), (∀ j, cb + 2 * s.1 ≤ j → j < cb + 2 * (s.1 + k) → t' j = t j) → mvr t' cb nm ld k s = mvr t cb nm ld k s := by
  intro k
  induction k with
  | zero => intro s _; rfl
  | succ k ih =>
    intro s e
    rw [mvr, mvr, mvs_cg (t := t) (t' := t') (e _ (by omega) (by omega)) (e _ (by omega) (by omega))]
    generalize h : mvs t cb nm ld s = o
    cases o with
    | none => rw [Option.bind_none, Option.bind_none]
    | some s1 =>
      have hi := mvs_i h
      rw [Option.bind_some, Option.bind_some]
      exact ih s1 (fun j h1 h2 => e j (by omega) (by omega))
theorem EvM_cg {t t' : Nat → Int32} {cb a b N : Nat} {v : Den} (hab : a ≤ b) (e : ∀ j, cb + 2 * a ≤ j → j < cb + 2 * b → t' j = t j) (w : EvM t cb a b N v) : EvM t' cb a b N v := by
  intro nm ld nmI ldl env n tr vals tru h1 h2
  obtain ⟨vals', tru', q1, q2⟩ := w nm ld nmI ldl env n tr vals tru h1 h2
  refine ⟨vals', tru', ?_, q2⟩
  rw [mvr_cg (t := t) (t' := t') (b - a) _ (fun j j1 j2 => e j j1 (by
    have : a + (b - a) = b := by omega
    simp only [this] at j2
    exact j2))]
  exact q1
theorem lwM_cg {h H : MH} {N t k : Nat} {v : Den} (hk : k < 24) (e : ∀ j, 681 * t ≤ j → j < 681 * t + 681 → gI H 70 j = gI h 70 j) (w : lwM h N t k v) : lwM H N t k v := by
  obtain ⟨a, b, w1, w2, w3, w4, w5⟩ := w
  exact ⟨a, b, by rw [e _ (by omega) (by omega)]; exact w1, by rw [e _ (by omega) (by omega)]; exact w2, w3, w4, EvM_cg w3 (fun j h1 h2 => e j (by omega) (by omega)) w5⟩
theorem lwMO_cg {h H : MH} {N t cnt srt : Nat} {o : Option Den} (hc : cnt ≤ 24) (e : ∀ j, 681 * t ≤ j → j < 681 * t + 681 → gI H 70 j = gI h 70 j) (w : lwMO h N t cnt srt o) : lwMO H N t cnt srt o := by
  cases o with
  | none =>
    intro k hk
    rw [e _ (by omega) (by omega)]
    exact w k hk
  | some v =>
    obtain ⟨k, k1, k2, k3, k4, k5⟩ := w
    exact ⟨k, k1, by rw [e _ (by omega) (by omega)]; exact k2, fun j hj => by rw [e _ (by omega) (by omega)]; exact k3 j hj, lwM_cg (by omega) e k4, k5⟩
theorem clsA_ext {h H : MH} (F : frs h) (h84 : 84 ≤ mN h) (E : EXT h H) {a cnt : Nat} (w : clsA h a cnt) : clsA H a cnt ∧ gI H a = gI h a := by
  obtain ⟨w1, w2, w3, w4⟩ := w
  have hl := kd_lt F w1 (by decide)
  obtain ⟨p1, p2, p3, p4⟩ := E.1 a w3 hl
  exact ⟨⟨p1.trans w1, p2.trans w2, w3, fun z => w4 (stk_ext E hl z h84)⟩, p3⟩
theorem txtR_ext {h H : MH} (F : frs h) (h84 : 84 ≤ mN h) (E : EXT h H) {r t : Nat} (e : ∀ j, 681 * t ≤ j → j < 681 * t + 681 → gI H 70 j = gI h 70 j) (w : txtR h r t) : txtR H r t := by
  obtain ⟨dt, ds, cnt, K, F', S, ⟨c1, c2, c3, c4⟩, ⟨h2, h3, h4, h5⟩, ⟨d2, d3, d4⟩, h6⟩ := w
  have hl := kd_lt F c1 (by decide)
  obtain ⟨p1, p2, p3, p4⟩ := E.1 r c2 hl
  obtain ⟨a2, b2⟩ := clsA_ext F h84 E d2
  obtain ⟨a3, b3⟩ := clsA_ext F h84 E d3
  obtain ⟨a4, b4⟩ := clsA_ext F h84 E d4
  refine ⟨dt, ds, cnt, K, F', S, ⟨p1.trans c1, c2, by rw [p4]; exact lwO_ext F h84 E c3, by rw [p4]; exact lwO_ext F h84 E c4⟩, ⟨h2, by rw [e _ (by omega) (by omega)]; exact h3, lwMO_cg h2 e h4, lwMO_cg h2 e h5⟩, ?_, fun k hk => ?_⟩
  · rw [p4]; exact ⟨a2, a3, a4⟩
  · rw [p4, b2, b3, b4, e _ (by omega) (by omega), e _ (by omega) (by omega), e _ (by omega) (by omega)]
    exact h6 k hk
/-- the text that was read, on both sides -/
theorem txtR_new {H : MH} {r tx n : Nat} {tk tv : Nat → Nat} {pos K F S : Nat → Nat} {ms : Nat → List (Nat × Nat)} {vs : Nat → Den} {dt ds : Option Den} (R : CRT tk tv n pos K F S ms vs dt ds) (hn : n ≤ 24) (C : txC H r dt ds) (A : clsA H (gR H r 2) n ∧ clsA H (gR H r 3) n ∧ clsA H (gR H r 4) n) (rows : ∀ i, i < n → gI H (gR H r 2) i = nI (300 + K i) ∧ gI H (gR H r 3) i = nI (F i) ∧ gI H (gR H r 4) i = nI (S i)) (et : gI H 70 (681 * tx) = nI n) (hat : atM (gI H 70) (681 * tx + 73) 0 (mcat ms n) ∧ (mcat ms n).length ≤ 300) (M : ∀ j, j < n → MRW (gI H 70) tx (mcat ms n) j (K j) (F j) (S j) (ms j)) : txtR H r tx := by
  have K7 : ∀ i, i < n → K i ≤ 7 := fun i hi => by
    rcases (R.2.1 i hi).1.2 with ⟨o, -⟩ | ⟨-, o, -⟩ <;> omega
  have law : ∀ k, k ≤ 1 → ∀ (o : Option Den), dtS o n K vs k → lwMO H (NN (k == 1)) tx n k o := by
    intro k hk o d
    cases o with
    | none =>
      intro j hj z
      rw [(M j hj).1, nI_eq (by have := K7 j hj; omega) (by omega)] at z
      exact d j hj z
    | some v =>
      obtain ⟨i, i1, i2, i3⟩ := d
      obtain ⟨O, tw⟩ := R.2.1 i i1
      obtain ⟨m1, m2, -, -⟩ := M i i1
      obtain ⟨c1, c2, q1, q2, q3⟩ := m2 (by omega)
      rcases O.2 with ⟨o1, q, o2, o3, o4, o5, o6, o7⟩ | ⟨o1, -⟩
      · rw [i2, i3] at o6
        rw [i3] at o7
        have hat1 := hat.1
        have hlen := hat.2
        rw [q1] at hat1 hlen
        rw [List.length_append, List.length_append] at hlen
        have am := atM_r (atM_l hat1)
        rw [Nat.zero_add] at am
        refine ⟨i, i1, by rw [m1, i2], fun j hj z => ?_, ⟨c1.length, c1.length + (ms i).length, q2, q3, by omega, by omega, o6 _ _ _ am⟩, o7⟩
        rw [(M j (by omega)).1, nI_eq (by have := K7 j (by omega); omega) (by omega)] at z
        exact tw (by omega) j hj (by omega)
      · omega
  refine ⟨dt, ds, n, K, F, S, C, ⟨hn, et, law 0 (by omega) dt R.2.2.1, law 1 (by omega) ds R.2.2.2⟩, A, fun k hk => ?_⟩
  obtain ⟨r1, r2, r3⟩ := rows k hk
  obtain ⟨m1, m2, m3, m4⟩ := M k hk
  have rg : 2 ≤ K k → rgL (K k) ≤ F k ∧ F k ≤ rgH (K k) ∧ (K k = 2 ∨ K k = 3 ∨ K k = 6 → S k ≤ 8) := by
    intro z
    rcases (R.2.1 k hk).1.2 with ⟨o, -⟩ | ⟨-, -, q, ⟨⟨o1, o2, o3, o4⟩, o5⟩, -⟩
    · omega
    · refine ⟨o3, o4, fun y => ?_⟩
      rcases o5 with ⟨-, -, -, -, o6, -⟩ | ⟨o6, -⟩
      · exact o6
      · omega
  have rgv : ∀ j, rgL j = (if j = 2 ∨ j = 6 ∨ j = 7 then 1 else 0) ∧ rgH j = (if j = 2 ∨ j = 6 then 9 else if j = 7 then 60 else 3) := fun j => ⟨rfl, rfl⟩
  refine ⟨⟨K7 k hk, r1, m1⟩, fun z => ⟨r2, m3 z⟩, fun z => ⟨r3, m4 z, (rg (by omega)).2.2 z⟩, fun z => ?_, fun z => ?_, fun z => ?_, fun z => ?_, fun z => ?_, fun z => ?_⟩
  all_goals
    have q := rg (by omega)
    rw [z] at q
    have q1 : rgL (K k) = rgL (K k) := rfl
    revert q
    simp only [rgL, rgH]
    intro q
    simp at q
    omega
