/-! TWO PROGRAMS: the search is made when it is first asked for -/
set_option linter.unusedSectionVars false
def m3 (m : MU) (s : Nat) : MU := fun a => if a = 60 then some s else if a = 61 then some (s + 1) else if a = 62 then some (s + 2) else m a
theorem m3_n {m : MU} {s a : Nat} (h : ¬ a = 60 ∧ ¬ a = 61 ∧ ¬ a = 62) : m3 m s a = m a := by
  unfold m3
  rw [if_neg h.1, if_neg h.2.1, if_neg h.2.2]
def lS (s : Nat) : List (Nat × Nat × Nat × Nat) := [(0, 6, 4, 0), (0, 20, 6561, 0), (1, s, 0, s + 1), (0, 20, 6561, 0), (1, s, 1, s + 2), (2, s, 2, 0), (3, s, 3, 0), (1, 8, 6, s)]
theorem tsl6 (k : Nat) : ¬ tsl k = 6 := by
  unfold tsl
  split <;> omega
section SR
variable {m : MU} {h g : MH}
theorem s3_R (g : MH) (b k : Nat) : gR (opsH g (lS (mN g))) b k = if b = 8 ∧ k = 6 then mN g else if b = mN g ∧ k = 1 then mN g + 2 else if b = mN g + 2 then 0 else if b = mN g ∧ k = 0 then mN g + 1 else if b = mN g + 1 then 0 else if b = mN g then 0 else gR g b k := by
  rw [rd_R]
  rfl
theorem s3_I (g : MH) (b k : Nat) : gI (opsH g (lS (mN g))) b k = if b = mN g ∧ k = 3 then -1 else if b = mN g ∧ k = 2 then 0 else if b = mN g + 2 then 0 else if b = mN g + 1 then 0 else if b = mN g then 0 else gI g b k := by
  rw [rd_I]
  rfl
theorem s3_L (g : MH) (b : Nat) : gL (opsH g (lS (mN g))) b = if b = mN g + 2 then (fun _ => 0) else if b = mN g + 1 then (fun _ => 0) else if b = mN g then (fun _ => 0) else gL g b := rfl
theorem s3_al (g : MH) (b : Nat) : (kd (opsH g (lS (mN g))) b, ln (opsH g (lS (mN g))) b) = (if b = mN g then some (6, 4) else if b = mN g + 1 then some (20, 6561) else if b = mN g + 2 then some (20, 6561) else none).getD (kd g b, ln g b) := by
  rw [al_ops]
  rfl
theorem s3_lo (g : MH) {b : Nat} (hb : b < mN g) : (kd (opsH g (lS (mN g))) b = kd g b ∧ ln (opsH g (lS (mN g))) b = ln g b) ∧ gI (opsH g (lS (mN g))) b = gI g b ∧ gL (opsH g (lS (mN g))) b = gL g b ∧ ∀ k, ¬ (b = 8 ∧ k = 6) → gR (opsH g (lS (mN g))) b k = gR g b k := by
  have e := s3_al g b
  rw [if_neg (by omega), if_neg (by omega), if_neg (by omega)] at e
  refine ⟨⟨congrArg Prod.fst e, congrArg Prod.snd e⟩, ?_, ?_, fun k hk => ?_⟩
  · funext k
    rw [s3_I, if_neg (by omega), if_neg (by omega), if_neg (by omega), if_neg (by omega), if_neg (by omega)]
  · rw [s3_L, if_neg (by omega), if_neg (by omega), if_neg (by omega)]
  · rw [s3_R, if_neg hk, if_neg (by omega), if_neg (by omega), if_neg (by omega), if_neg (by omega), if_neg (by omega)]
theorem s3_RC (S : SS m h g) (G : GN m h g) {a b : Nat} (e : m3 m (mN g) a = some b) : (a < mN h ∧ b < mN g + 3) ∧ RCe (m3 m (mN g)) h (opsH g (lS (mN g))) a b := by
  have hN := S.2.1.2.2.2
  have g8 : 8 < mN g := (S.1.2.1 8 8 S.2.1.1).1.2
  obtain ⟨G1, G2, ⟨⟨⟨f1, f2⟩, f3, f4, f5⟩, f6⟩, G4, G5⟩ := G
  have z0 : m3 m (mN g) 0 = some 0 := by
    rw [m3_n (by decide)]; exact SS_0 S
  by_cases a1 : a = 60
  · subst a1
    have eb : b = mN g := (Option.some.inj e).symm
    subst eb
    have q := s3_al g (mN g)
    rw [if_pos rfl] at q
    refine ⟨⟨by omega, by omega⟩, ⟨(congrArg Prod.fst q).trans f1.symm, (congrArg Prod.snd q).trans f2.symm⟩, ⟨?_, ?_⟩, fun k _ => ?_, fun z => by rw [f1] at z; cases z⟩
    · funext k
      rw [s3_I, f3 k]
      by_cases c : k = 3
      · rw [if_pos ⟨rfl, c⟩, if_pos c]
      · rw [if_neg (fun w => c w.2), if_neg c]
        by_cases c2 : k = 2
        · rw [if_pos ⟨rfl, c2⟩]
        · rw [if_neg (fun w => c2 w.2), if_neg (by omega), if_neg (by omega), if_pos rfl]
    · funext k
      rw [s3_L, if_neg (by omega), if_neg (by omega), if_pos rfl, f4 k]
    · have w8 : ¬ (mN g = 8 ∧ k = 6) := by omega
      have w2 : ¬ mN g = mN g + 2 := by omega
      have w1 : ¬ mN g = mN g + 1 := by omega
      rw [f1, sl_ne (by decide), s3_R, f5 k, if_neg w8]
      by_cases c : k = 0
      · rw [if_pos c, if_neg (show ¬ (mN g = mN g ∧ k = 1) by omega), if_neg w2, if_pos ⟨rfl, c⟩]
        rfl
      · rw [if_neg c]
        by_cases c1 : k = 1
        · rw [if_pos c1, if_pos ⟨rfl, c1⟩]
          rfl
        · rw [if_neg c1, if_neg (show ¬ (mN g = mN g ∧ k = 1) by omega), if_neg w2, if_neg (show ¬ (mN g = mN g ∧ k = 0) by omega), if_neg w1, if_pos rfl]
          exact z0
  · by_cases a2 : a = 61 ∨ a = 62
    · have eb : b = mN g + 1 ∨ b = mN g + 2 := by
        rcases a2 with rfl | rfl
        · exact Or.inl (Option.some.inj e).symm
        · exact Or.inr (Option.some.inj e).symm
      obtain ⟨⟨p1, p2⟩, p3, p4, p5⟩ := f6 a a2
      have q := s3_al g b
      rw [if_neg (by omega)] at q
      have q' : (kd (opsH g (lS (mN g))) b, ln (opsH g (lS (mN g))) b) = (20, 6561) := by
        rw [q]
        rcases eb with eb | eb
        · rw [if_pos eb]; rfl
        · rw [if_neg (by omega), if_pos eb]; rfl
      refine ⟨⟨by omega, by omega⟩, ⟨(congrArg Prod.fst q').trans p1.symm, (congrArg Prod.snd q').trans p2.symm⟩, ⟨?_, ?_⟩, fun k _ => ?_, fun z => by rw [p1] at z; cases z⟩
      · funext k
        rw [s3_I, p3 k, if_neg (by omega), if_neg (by omega)]
        rcases eb with eb | eb
        · rw [if_neg (by omega), if_pos eb]
        · rw [if_pos eb]
      · funext k
        rw [s3_L, p4 k]
        rcases eb with eb | eb
        · rw [if_neg (by omega), if_pos eb]
        · rw [if_pos eb]
      · rw [p1, sl_ne (by decide), s3_R, p5 k, if_neg (by omega), if_neg (by omega)]
        rcases eb with eb | eb
        · rw [if_neg (by omega), if_neg (by omega), if_pos eb]; exact z0
        · rw [if_pos eb]; exact z0
    · have nn : ¬ a = 60 ∧ ¬ a = 61 ∧ ¬ a = 62 := ⟨a1, by omega, by omega⟩
      rw [m3_n nn] at e
      obtain ⟨⟨l1, l2⟩, ⟨c1, c2⟩, ⟨c3, c4⟩, c5, c6⟩ := S.1.2.1 a b e
      obtain ⟨⟨d1, d2⟩, d3, d4, d5⟩ := s3_lo g l2
      refine ⟨⟨l1, by omega⟩, ⟨d1.trans c1, d2.trans c2⟩, ⟨d3.trans c3, d4.trans c4⟩, fun k hk => ?_, c6⟩
      have w := c5 k hk
      have nk : ¬ (b = 8 ∧ sl (kd h a) k = 6) := by
        rintro ⟨eb, ek⟩
        have ea : a = 8 := (SS_i S S.2.1.1 e).mp eb
        rw [ea, S.2.1.2.1] at ek
        exact tsl6 k ek
      rw [d5 _ nk]
      have nw : ¬ gR h a k = 60 ∧ ¬ gR h a k = 61 ∧ ¬ gR h a k = 62 := by
        obtain ⟨n1, n2, n3⟩ := G2
        refine ⟨?_, ?_, ?_⟩ <;> (intro z; rw [z] at w; simp_all)
      rw [m3_n nw]
      exact w
theorem s3_SS (S : SS m h g) (G : GN m h g) : SS (m3 m (mN g)) h (opsH g (lS (mN g))) ∧ m3 m (mN g) 60 = some (gR (opsH g (lS (mN g))) 8 6) ∧ ml m (m3 m (mN g)) := by
  have hN := S.2.1.2.2.2
  have g8 : 8 < mN g := (S.1.2.1 8 8 S.2.1.1).1.2
  have mn : mN (opsH g (lS (mN g))) = mN g + 3 := by rw [mN_ops]; rfl
  have r6 : gR (opsH g (lS (mN g))) 8 6 = mN g := by rw [s3_R, if_pos ⟨rfl, rfl⟩]
  have e60 : m3 m (mN g) 60 = some (gR (opsH g (lS (mN g))) 8 6) := by rw [r6]; rfl
  refine ⟨⟨⟨fun a ha => ?_, fun a b e => ?_, fun a c b e1 e2 => ?_⟩, ⟨?_, S.2.1.2⟩, Or.inr ⟨e60, ?_, ?_⟩⟩, e60, fun a b e => ?_⟩
  · rw [m3_n (by omega)]; exact S.1.1 a ha
  · rw [mn]; exact s3_RC S G e
  · have key : ∀ {a b : Nat}, m3 m (mN g) a = some b → (a = 60 ∧ b = mN g) ∨ (a = 61 ∧ b = mN g + 1) ∨ (a = 62 ∧ b = mN g + 2) ∨ (m a = some b ∧ b < mN g) := by
      intro a b e
      unfold m3 at e
      split at e
      · rename_i z; exact Or.inl ⟨z, (Option.some.inj e).symm⟩
      · split at e
        · rename_i z; exact Or.inr (Or.inl ⟨z, (Option.some.inj e).symm⟩)
        · split at e
          · rename_i z; exact Or.inr (Or.inr (Or.inl ⟨z, (Option.some.inj e).symm⟩))
          · exact Or.inr (Or.inr (Or.inr ⟨e, (S.1.2.1 a b e).1.2⟩))
    rcases key e1 with q1 | q1 | q1 | q1 <;> rcases key e2 with q2 | q2 | q2 | q2 <;> first | omega | exact S.1.2.2 a c b q1.1 q2.1
  · rw [m3_n (by decide)]; exact S.2.1.1
  · rw [mn]; exact G.2.2.2.1
  · have e5 : smL (lS (mN g)) = 13126 := by simp only [lS, smL]
    rw [mS_ops, ← G.2.2.2.2, e5]
  · rw [m3_n (GN_no G e)]; exact e
/-- from there on, as before -/
theorem expl8 {d D : Nat} (hD : d ≤ D) {h1 h2 : MH} {v1 v2 : Value} {a1 t : Int32} (S : SS m h g) (M : m 60 = some (gR g 8 6)) (k0 : kd h (gR h 8 0) = 1) (k2 : kd h (gR h 8 2) = 10) (e1 : mE mtab d 225 [.ref (gR h 8 2), .ref (gR h (gR h 8 0) 0)] h = some (v1, h1)) (k6 : kd h1 (gR h1 8 5) = 6) (e2 : mE mtab d 239 [.ref (gR h1 8 5), .ref (gR h1 8 2), .int a1, .int t] h1 = some (v2, h2)) : ∃ m' g', mX (mE jtab D) JX10_explored 8 [some (.ref 8), some (.int a1), some (.int t)] [] g = some (.ref (gR g' 8 6), g') ∧ ml m m' ∧ SS m' h2 g' ∧ m' 60 = some (gR g' 8 6) := by
  have at8 : ∀ {m : MU} {h g : MH}, SS m h g → kd g 8 = 11 ∧ m (gR h 8 0) = some (gR g 8 0) ∧ m (gR h 8 2) = some (gR g 8 2) := by
    intro m h g S
    have C := SS_c S S.2.1.1
    have k8 := S.2.1.2.1
    have w0 := C.2.2.1 0 (by omega)
    have w2 := C.2.2.1 2 (by omega)
    rw [k8] at w0 w2
    exact ⟨C.1.1.trans k8, w0, w2⟩
  have keep : ∀ {m m' : MU} {h' g' : MH} {x : Nat}, m 60 = some x → ml m m' → SS m' h' g' → m' 60 = some (gR g' 8 6) := by
    intro m m' h' g' x q l S'
    rcases S'.2.2 with G | G
    · have := l _ _ q
      rw [G.2.1.1] at this
      cases this
    · exact G.1
  obtain ⟨p1, p2, p3⟩ := at8 S
  have p4 := SS_gR S p2 0 (by omega)
  obtain ⟨m1, w1, g1, f1, f2, f3, -⟩ := sim_call d D hD 225 _ [.ref (gR g 8 2), .ref (gR g (gR g 8 0) 0)] h g v1 h1 m rfl e1 S (Rs_cr p3 (Rs_cr p4 rfl))
  have M1 := keep M f2 f3
  obtain ⟨q1, q2, q3⟩ := at8 f3
  have r5 : gR h1 8 5 = 60 := f3.2.1.2.2.1
  rw [r5] at e2 k6
  have kk : kd g1 (gR g1 8 6) = 6 := (SS_kd f3 M1).trans k6
  obtain ⟨m2, w2, g2, u1, u2, u3, -⟩ := sim_call d D hD 239 _ [.ref (gR g1 8 6), .ref (gR g1 8 2), .int a1, .int t] h1 g1 v2 h2 m1 rfl e2 f3 (Rs_cr M1 (Rs_cr q3 (Rs_ci (Rs_ci rfl))))
  refine ⟨m2, g2, ?_, ml_tr f2 u2, u3, keep M1 u2 u3⟩
  rw [E_X10_explored_8, ck_pos p1, ck_pos p1, ck_pos ((SS_kd S p2).trans k0), ck_pos ((SS_kd S p3).trans k2), f1, cV_some, ck_pos q1, ck_pos q1, ck_pos kk, u1, cV_some, ck_pos (at8 u3).1]
theorem expl {d D : Nat} (hD : d ≤ D) (hD0 : 1 ≤ D) {h1 h2 : MH} {v1 v2 : Value} {a1 t : Int32} (S : SS m h g) (k0 : kd h (gR h 8 0) = 1) (k2 : kd h (gR h 8 2) = 10) (e1 : mE mtab d 225 [.ref (gR h 8 2), .ref (gR h (gR h 8 0) 0)] h = some (v1, h1)) (k6 : kd h1 (gR h1 8 5) = 6) (e2 : mE mtab d 239 [.ref (gR h1 8 5), .ref (gR h1 8 2), .int a1, .int t] h1 = some (v2, h2)) : ∃ m' g', mE jtab (D + 1) 338 [.ref 8, .int a1, .int t] g = some (.ref (gR g' 8 6), g') ∧ ml m m' ∧ SS m' h2 g' ∧ m' 60 = some (gR g' 8 6) := by
  have k8 : kd g 8 = 11 := (SS_kd S S.2.1.1).trans S.2.1.2.1
  have g8 : 8 < mN g := (S.1.2.1 8 8 S.2.1.1).1.2
  rw [E_X10_explored, ck_pos k8]
  rcases S.2.2 with G | G
  · rw [if_pos G.1, lt_def]
    obtain ⟨D, rfl⟩ : ∃ D', D = D' + 1 := ⟨D - 1, by omega⟩
    have ks : kd (mA g 6 4) (mN g) = 6 := by rw [kd_mA, if_pos rfl]
    have j := j6 D (h := mA g 6 4) (a0 := mN g) (m := mN g + 1) rfl (by omega) (by omega) ks
    have k9 : kd (opsH (mA g 6 4) (oi6 (mN g) (mN g + 1))) 8 = 11 := by
      rw [kd_ops _ _ (by rw [mN_mA]; omega), kd_mA, if_neg (by omega)]
      exact k8
    rw [ck_pos ks, j, cV_some, ck_pos k9, lt_def]
    obtain ⟨S', M', l'⟩ := s3_SS S G
    obtain ⟨m', g', q1, q2, q3⟩ := expl8 hD S' M' k0 k2 e1 k6 e2
    exact ⟨m', g', q1, ml_tr l' q2, q3⟩
  · have nz : ¬ gR g 8 6 = 0 := fun z => by
      have := (SS_z S G.1).mp z
      omega
    rw [if_neg nz]
    exact expl8 hD S G.1 k0 k2 e1 k6 e2
end SR
