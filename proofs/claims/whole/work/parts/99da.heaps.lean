/-! TWO PROGRAMS, their heaps: mtab (the class as it was at 9d58243) and jtab (the class as it stands): which cell stands for which -/
abbrev MU : Type := Nat → Option Nat
/-- slots of the class's own object: as they were, as they are -/
def tsl (b : Nat) : Nat := match b with
  | 3 => 4
  | 4 => 3
  | 6 => 5
  | n => n
def sl (kn k : Nat) : Nat := if kn = 11 then tsl k else k
theorem sl_ne {kn k : Nat} (h : ¬ kn = 11) : sl kn k = k := if_neg h
def ml (m m' : MU) : Prop := ∀ a b, m a = some b → m' a = some b
theorem ml_rf {m : MU} : ml m m := fun _ _ h => h
theorem ml_tr {m1 m2 m3 : MU} (h : ml m1 m2) (h' : ml m2 m3) : ml m1 m3 := fun a b q => h' a b (h a b q)
/-- a cell of both -/
def RCe (m : MU) (h g : MH) (a b : Nat) : Prop := (kd g b = kd h a ∧ ln g b = ln h a) ∧ (gI g b = gI h a ∧ gL g b = gL h a) ∧ (∀ k, ¬ (kd h a = 11 ∧ k = 5) → m (gR h a k) = some (gR g b (sl (kd h a) k))) ∧ (kd h a = 11 → a = 8)
def RH (m : MU) (h g : MH) : Prop := (∀ a, a < 8 → m a = some a) ∧ (∀ a b, m a = some b → (a < mN h ∧ b < mN g) ∧ RCe m h g a b) ∧ ∀ a c b, m a = some b → m c = some b → a = c
/-- the search as it is made -/
def FR (h : MH) : Prop := ((kd h 60 = 6 ∧ ln h 60 = 4) ∧ (∀ k, gI h 60 k = if k = 3 then -1 else 0) ∧ (∀ k, gL h 60 k = 0) ∧ ∀ k, gR h 60 k = if k = 0 then 61 else if k = 1 then 62 else 0) ∧ ∀ a, a = 61 ∨ a = 62 → (kd h a = 20 ∧ ln h a = 6561) ∧ (∀ k, gI h a k = 0) ∧ (∀ k, gL h a k = 0) ∧ ∀ k, gR h a k = 0
/-- not made yet, or made -/
def GN (m : MU) (h g : MH) : Prop := gR g 8 6 = 0 ∧ (m 60 = none ∧ m 61 = none ∧ m 62 = none) ∧ FR h ∧ mN g + 3 = mN h ∧ mS g + 13126 = mS h
def GM (m : MU) (h g : MH) : Prop := m 60 = some (gR g 8 6) ∧ mN g = mN h ∧ mS g = mS h
def GS (m : MU) (h g : MH) : Prop := (m 8 = some 8 ∧ kd h 8 = 11 ∧ gR h 8 5 = 60 ∧ 63 ≤ mN h) ∧ (GN m h g ∨ GM m h g)
def SS (m : MU) (h g : MH) : Prop := RH m h g ∧ GS m h g
theorem FR_eq {h h' : MH} (e : ∀ a, a = 60 ∨ a = 61 ∨ a = 62 → kd h' a = kd h a ∧ ln h' a = ln h a ∧ gI h' a = gI h a ∧ gL h' a = gL h a ∧ gR h' a = gR h a) (F : FR h) : FR h' := by
  obtain ⟨⟨⟨f1, f2⟩, f3, f4, f5⟩, f6⟩ := F
  obtain ⟨e1, e2, e3, e4, e5⟩ := e 60 (Or.inl rfl)
  refine ⟨⟨⟨e1.trans f1, e2.trans f2⟩, by rw [e3]; exact f3, by rw [e4]; exact f4, by rw [e5]; exact f5⟩, fun a ha => ?_⟩
  obtain ⟨e1, e2, e3, e4, e5⟩ := e a (Or.inr ha)
  rw [e1, e2, e3, e4, e5]
  exact f6 a ha
section HP
variable {m : MU} {h g : MH}
theorem SS_c (S : SS m h g) {a b : Nat} (e : m a = some b) : RCe m h g a b := (S.1.2.1 a b e).2
theorem SS_kd (S : SS m h g) {a b : Nat} (e : m a = some b) : kd g b = kd h a := (SS_c S e).1.1
theorem SS_ln (S : SS m h g) {a b : Nat} (e : m a = some b) : ln g b = ln h a := (SS_c S e).1.2
theorem SS_gI (S : SS m h g) {a b : Nat} (e : m a = some b) : gI g b = gI h a := (SS_c S e).2.1.1
theorem SS_gL (S : SS m h g) {a b : Nat} (e : m a = some b) : gL g b = gL h a := (SS_c S e).2.1.2
theorem SS_gR (S : SS m h g) {a b : Nat} (e : m a = some b) (k : Nat) (hk : ¬ kd h a = 11) : m (gR h a k) = some (gR g b k) := by
  have := (SS_c S e).2.2.1 k (fun q => hk q.1)
  rwa [sl_ne hk] at this
theorem SS_0 (S : SS m h g) : m 0 = some 0 := S.1.1 0 (by decide)
theorem SS_z (S : SS m h g) {a b : Nat} (e : m a = some b) : b = 0 ↔ a = 0 := by
  constructor
  · rintro rfl; exact S.1.2.2 a 0 0 e (SS_0 S)
  · rintro rfl
    rw [SS_0 S] at e
    exact (Option.some.inj e).symm
theorem SS_i (S : SS m h g) {a b c d : Nat} (e : m a = some b) (e' : m c = some d) : d = b ↔ c = a := by
  constructor
  · rintro rfl; exact S.1.2.2 c a d e' e
  · rintro rfl
    rw [e] at e'
    exact (Option.some.inj e').symm
theorem GN_no {m : MU} {h g : MH} (G : GN m h g) {a b : Nat} (e : m a = some b) : ¬ a = 60 ∧ ¬ a = 61 ∧ ¬ a = 62 := by
  obtain ⟨-, ⟨n1, n2, n3⟩, -⟩ := G
  refine ⟨?_, ?_, ?_⟩ <;> (rintro rfl; simp_all)
theorem SS_rI (S : SS m h g) {a b : Nat} (e : m a = some b) (f : Nat → Int32) : SS m (rI h a f) (rI g b f) := by
  refine ⟨⟨S.1.1, fun c d q => ⟨(S.1.2.1 c d q).1, ?_⟩, S.1.2.2⟩, S.2.1, S.2.2.imp (fun G => ⟨G.1, G.2.1, FR_eq (h := h) (fun c hc => ⟨rfl, rfl, ?_, rfl, rfl⟩) G.2.2.1, G.2.2.2⟩) (fun G => G)⟩
  · obtain ⟨c1, ⟨c2, c3⟩, c4⟩ := SS_c S q
    refine ⟨c1, ⟨?_, c3⟩, c4⟩
    rw [gI_rI, gI_rI]
    by_cases z : c = a
    · rw [if_pos z, if_pos ((SS_i S e q).mpr z)]
    · rw [if_neg z, if_neg (fun w => z ((SS_i S e q).mp w))]
      exact c2
  · have := GN_no G e
    rw [gI_rI, if_neg (by omega)]
theorem SS_rL (S : SS m h g) {a b : Nat} (e : m a = some b) (f : Nat → Int64) : SS m (rL h a f) (rL g b f) := by
  refine ⟨⟨S.1.1, fun c d q => ⟨(S.1.2.1 c d q).1, ?_⟩, S.1.2.2⟩, S.2.1, S.2.2.imp (fun G => ⟨G.1, G.2.1, FR_eq (h := h) (fun c hc => ⟨rfl, rfl, rfl, ?_, rfl⟩) G.2.2.1, G.2.2.2⟩) (fun G => G)⟩
  · obtain ⟨c1, ⟨c2, c3⟩, c4⟩ := SS_c S q
    refine ⟨c1, ⟨c2, ?_⟩, c4⟩
    rw [gL_rL, gL_rL]
    by_cases z : c = a
    · rw [if_pos z, if_pos ((SS_i S e q).mpr z)]
    · rw [if_neg z, if_neg (fun w => z ((SS_i S e q).mp w))]
      exact c3
  · have := GN_no G e
    rw [gL_rL, if_neg (by omega)]
theorem SS_rR (S : SS m h g) {a b : Nat} (e : m a = some b) (hk : ¬ kd h a = 11) {f f' : Nat → Nat} (hf : ∀ k, m (f k) = some (f' k)) : SS m (rR h a f) (rR g b f') := by
  have na : ¬ 8 = a := by
    rintro rfl
    exact hk S.2.1.2.1
  have nb : ¬ 8 = b := fun q => na ((SS_i S e S.2.1.1).mp q)
  have g8 : gR (rR g b f') 8 6 = gR g 8 6 := by rw [gR_rR, if_neg nb]
  refine ⟨⟨S.1.1, fun c d q => ⟨(S.1.2.1 c d q).1, ?_⟩, S.1.2.2⟩, ⟨S.2.1.1, S.2.1.2.1, ?_, S.2.1.2.2.2⟩, S.2.2.imp (fun G => ⟨g8.trans G.1, G.2.1, FR_eq (h := h) (fun c hc => ⟨rfl, rfl, rfl, rfl, ?_⟩) G.2.2.1, G.2.2.2⟩) (fun G => ⟨by rw [g8]; exact G.1, G.2⟩)⟩
  · obtain ⟨c1, c2, c4, c5⟩ := SS_c S q
    refine ⟨c1, c2, fun k hk' => ?_, c5⟩
    rw [gR_rR, gR_rR]
    by_cases z : c = a
    · rw [if_pos z, if_pos ((SS_i S e q).mpr z), kd_rR, z, sl_ne hk]
      exact hf k
    · rw [if_neg z, if_neg (fun w => z ((SS_i S e q).mp w))]
      exact c4 k hk'
  · rw [gR_rR, if_neg na]
    exact S.2.1.2.2.1
  · have := GN_no G e
    rw [gR_rR, if_neg (by omega)]
theorem SS_sI (S : SS m h g) {a b : Nat} (e : m a = some b) (k : Nat) (v : Int32) : SS m (sI h a k v) (sI g b k v) := by
  have := SS_rI S e (va_up (gI h a) k v)
  unfold sI
  rw [SS_gI S e]
  exact this
theorem SS_sL (S : SS m h g) {a b : Nat} (e : m a = some b) (k : Nat) (v : Int64) : SS m (sL h a k v) (sL g b k v) := by
  have := SS_rL S e (va_up (gL h a) k v)
  unfold sL
  rw [SS_gL S e]
  exact this
theorem SS_sR (S : SS m h g) {a b : Nat} (e : m a = some b) (hk : ¬ kd h a = 11) (k : Nat) {v w : Nat} (ev : m v = some w) : SS m (sR h a k v) (sR g b k w) := by
  refine SS_rR S e hk fun j => ?_
  by_cases z : j = k
  · rw [z, va_up_self, va_up_self]; exact ev
  · rw [va_up_ne _ _ z, va_up_ne _ _ z]; exact SS_gR S e j hk
def mup (m : MU) (a b : Nat) : MU := fun c => if c = a then some b else m c
theorem mup_s (m : MU) (a b : Nat) : mup m a b a = some b := if_pos rfl
theorem mup_n (m : MU) {a b c : Nat} (h : ¬ c = a) : mup m a b c = m c := if_neg h
theorem SS_ml (S : SS m h g) : ml m (mup m (mN h) (mN g)) := fun a b q => by
  rw [mup_n _ (by have := (S.1.2.1 a b q).1.1; omega)]
  exact q
theorem SS_mA (S : SS m h g) {kn n : Nat} (hk : ¬ kn = 11) : SS (mup m (mN h) (mN g)) (mA h kn n) (mA g kn n) := by
  have hN := S.2.1.2.2.2
  have gN := (S.1.2.1 8 8 S.2.1.1).1.2
  have g8 : gR (mA g kn n) 8 = gR g 8 := by rw [gR_mA, if_neg (by omega)]
  refine ⟨⟨fun a ha => ?_, fun c d q => ?_, fun a c b q1 q2 => ?_⟩, ⟨?_, ?_, ?_, by rw [mN_mA]; omega⟩, S.2.2.imp (fun G => ⟨?_, ⟨?_, ?_, ?_⟩, FR_eq (h := h) (fun c hc => ?_) G.2.2.1, ?_, ?_⟩) (fun G => ⟨?_, ?_, ?_⟩)⟩
  · rw [mup_n _ (by omega)]; exact S.1.1 a ha
  · rw [mN_mA, mN_mA]
    by_cases z : c = mN h
    · rw [z, mup_s] at q
      have q := (Option.some.inj q).symm
      subst q z
      refine ⟨⟨by omega, by omega⟩, ⟨by rw [kd_mA, kd_mA, if_pos rfl, if_pos rfl], by rw [ln_mA, ln_mA, if_pos rfl, if_pos rfl]⟩, ⟨by rw [gI_mA, gI_mA, if_pos rfl, if_pos rfl], by rw [gL_mA, gL_mA, if_pos rfl, if_pos rfl]⟩, fun k _ => ?_, fun q => ?_⟩
      · rw [gR_mA, gR_mA, if_pos rfl, if_pos rfl, mup_n _ (by omega)]
        exact SS_0 S
      · rw [kd_mA, if_pos rfl] at q
        exact absurd q hk
    · rw [mup_n _ z] at q
      obtain ⟨⟨l1, l2⟩, ⟨c1, c2⟩, ⟨c3, c4⟩, c5, c6⟩ := S.1.2.1 c d q
      have z' : ¬ d = mN g := by omega
      refine ⟨⟨by omega, by omega⟩, ⟨by rw [kd_mA, kd_mA, if_neg z, if_neg z', c1], by rw [ln_mA, ln_mA, if_neg z, if_neg z', c2]⟩, ⟨by rw [gI_mA, gI_mA, if_neg z, if_neg z', c3], by rw [gL_mA, gL_mA, if_neg z, if_neg z', c4]⟩, fun k hk' => ?_, ?_⟩
      · rw [kd_mA, if_neg z] at hk' ⊢
        rw [gR_mA, gR_mA, if_neg z, if_neg z']
        exact SS_ml S _ _ (c5 k hk')
      · rw [kd_mA, if_neg z]; exact c6
  · unfold mup at q1 q2
    split at q1
    · rename_i z1
      split at q2
      · rename_i z2; rw [z1, z2]
      · cases q1
        exact absurd (S.1.2.1 _ _ q2).1.2 (Nat.lt_irrefl _)
    · split at q2
      · cases q2
        exact absurd (S.1.2.1 _ _ q1).1.2 (Nat.lt_irrefl _)
      · exact S.1.2.2 _ _ _ q1 q2
  · rw [mup_n _ (by omega)]; exact S.2.1.1
  · rw [kd_mA, if_neg (by omega)]; exact S.2.1.2.1
  · rw [gR_mA, if_neg (by omega)]; exact S.2.1.2.2.1
  · rw [g8]; exact G.1
  · rw [mup_n _ (by omega)]; exact G.2.1.1
  · rw [mup_n _ (by omega)]; exact G.2.1.2.1
  · rw [mup_n _ (by omega)]; exact G.2.1.2.2
  · have z : ¬ c = mN h := by omega
    exact ⟨by rw [kd_mA, if_neg z], by rw [ln_mA, if_neg z], by rw [gI_mA, if_neg z], by rw [gL_mA, if_neg z], by rw [gR_mA, if_neg z]⟩
  · have := G.2.2.2.1
    rw [mN_mA, mN_mA]; omega
  · have := G.2.2.2.2
    rw [mS_mA, mS_mA]; omega
  · rw [g8, mup_n _ (by omega)]; exact G.1
  · rw [mN_mA, mN_mA, G.2.1]
  · rw [mS_mA, mS_mA, G.2.2]
end HP
