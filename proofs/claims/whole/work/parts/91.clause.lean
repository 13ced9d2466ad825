--deps:19.lay 21.facts 22.00.names 22.01.eq 22.02.eq 22.03.eq 22.04.eq 22.05.eq 22.06.eq 22.07.eq 22.08.eq 22.09.eq 22.10.eq 22.11.eq 22.12.eq 22.13.eq 22.14.eq 22.15.eq 22.16.eq 22.17.eq 22.18.eq 22.19.eq 22.20.eq 22.21.eq 22.22.eq 22.23.eq 23.num 24.town 25.evc 26.evm 27.law 28.says 29.inv 36.deeds 37.hours 66.script 71.yard 72.yard2 73.gx 74.gx2 75.gx3 76.reader 77.read2 78.read3 89.nums 90.keep
/-! THE CLASS READS A CLAUSE -/
set_option linter.unusedSectionVars false
def RSC : List Nat := [50, 52, 53, 54, 55, 56, 57, 58, 59]
def CQ (h0 H : MH) (nl : Nat) : Prop := (lay H ∧ frs H ∧ LWF H) ∧ EXT h0 H ∧ (∀ a, a < 84 → ln H a = ln h0 a ∧ (¬ a ∈ RSC → gI H a = gI h0 a) ∧ (¬ a = 55 → gR H a = gR h0 a)) ∧ (mN H = mN h0 + 3 * nl ∧ mS H ≤ mS h0 + 366 * nl ∧ 84 ≤ mN h0)
def RWR (H H' : MH) : Prop := H'.1 = H.1 ∧ (∀ a, gR H' a = gR H a) ∧ (∀ a, ¬ a ∈ RSC → gI H' a = gI H a)
theorem RWR_tr {a b c : MH} (u : RWR a b) (v : RWR b c) : RWR a c := ⟨v.1.trans u.1, fun x => (v.2.1 x).trans (u.2.1 x), fun x hx => (v.2.2 x hx).trans (u.2.2 x hx)⟩
theorem RWR_rI (H : MH) {a : Nat} (ha : a ∈ RSC) (f : Nat → Int32) : RWR H (rI H a f) := ⟨rfl, fun _ => rfl, fun x hx => by rw [gI_rI, if_neg (show ¬ x = a from fun z => hx (z ▸ ha))]⟩
theorem RWR_RD (H : MH) (f g : Nat → Int32) : RWR H (RD H f g) := RWR_tr (RWR_rI H (by decide) f) (RWR_rI _ (by decide) g)
theorem RWR_W2 {H H' : MH} {n : Nat} (w : W2 H H' n) : RWR H H' := ⟨w.1, w.2.1, fun a ha => w.2.2.1 a (fun z => ha (by rw [z]; decide)) (fun z => ha (by rw [z]; decide))⟩
theorem CQ_row {h0 H H' : MH} {nl : Nat} (C : CQ h0 H nl) (r : RWR H H') (L : lay H') : CQ h0 H' nl := by
  obtain ⟨⟨c1, c2, c3⟩, ⟨e1, e2, e3⟩, c4, c5, c6, c7⟩ := C
  have k : ∀ a, kd H' a = kd H a := fun a => by unfold kd; rw [r.1]
  have l : ∀ a, ln H' a = ln H a := fun a => by unfold ln; rw [r.1]
  have m : mN H' = mN H := by unfold mN; rw [r.1]
  have s : mS H' = mS H := by unfold mS; rw [r.1]
  refine ⟨⟨L, fun a ha => by rw [k]; exact c2 a (by omega), fun x hx => ?_⟩, ⟨fun a h1 h2 => ?_, fun x h1 h2 => ?_, by omega⟩, fun a ha => ?_, by omega, by omega, c7⟩
  · rw [k] at hx
    rw [r.2.1, k]
    exact c3 x hx
  · rw [k, l, r.2.1, r.2.2 a (fun z => by have : ∀ a, a ∈ RSC → a < 84 := by decide
                                          have := this a z; omega)]
    exact e1 a h1 h2
  · rw [k] at h2
    rw [r.2.1]
    exact e2 x h1 h2
  · obtain ⟨q1, q2, q3⟩ := c4 a ha
    exact ⟨(l a).trans q1, fun z => (r.2.2 a z).trans (q2 z), fun z => (r.2.1 a).trans (q3 z)⟩
def CLO (tk tv : Nat → Nat) (p q K F S : Nat) (m : List (Nat × Nat)) (v : Den) : Prop := tk p = 300 + K ∧ ((K ≤ 1 ∧ ∃ q1, LEV tk tv (K == 1) 5 False (A1 0) 0 (p + 1) m q1 ∧ ¬ ariT (tk q1) ∧ tk q1 = 59 ∧ q = q1 + 1 ∧ GV m (NN (K == 1)) v ∧ rgD v) ∨ (2 ≤ K ∧ K ≤ 7 ∧ ∃ q1, BNO tk tv K (p + 1) q1 F S ∧ tk q1 = 59 ∧ q = q1 + 1 ∧ m = []))
def CLN (tk tv : Nat → Nat) (b0 b1 : Bool) (n p f q : Nat) : Prop := (¬ (300 ≤ tk p ∧ tk p ≤ 307) ∧ f = 1 ∧ q = p) ∨ ((tk p = 300 ∧ b0 = true ∨ tk p = 301 ∧ b1 = true) ∧ f = 4 ∧ q = p) ∨ (∃ K, tk p = 300 + K ∧ K ≤ 7 ∧ (¬ (K = 0 ∧ b0 = true) ∧ ¬ (K = 1 ∧ b1 = true)) ∧ (n = 24 ∧ f = 6 ∧ q = p ∨ n < 24 ∧ (K ≤ 1 ∧ (NOO tk tv (K == 1) (AN tk (p + 1) (A1 0)) 0 (p + 1) f q ∨ ∃ m, LEV tk tv (K == 1) 5 False (A1 0) 0 (p + 1) m q ∧ ¬ ariT (tk q) ∧ ¬ tk q = 59 ∧ f = 1) ∨ 2 ≤ K ∧ (BNN tk tv K (p + 1) f q ∨ ∃ F S, BNO tk tv K (p + 1) q F S ∧ ¬ tk q = 59 ∧ f = 1))))
def CST (h0 H : MH) (tk ts tv : Nat → Nat) (T p n nl : Nat) (K F S : Nat → Nat) (dt ds : Option Den) : Prop := CQ h0 H nl ∧ TPE H tk ts tv T ∧ (gI H 55 5 = nI p ∧ gI H 55 6 = nI n ∧ p ≤ T ∧ n ≤ 24) ∧ (∀ i, i < n → gI H 56 i = nI (300 + K i) ∧ gI H 57 i = nI (F i) ∧ gI H 58 i = nI (S i)) ∧ ((lwO H (gR H 55 9) dt ∧ lwO H (gR H 55 10) ds) ∧ gI H 55 11 = 0 ∧ gI H 55 12 = -1)
theorem w_of32 (x : Int32) : ∃ n, x = nI n := ⟨x.toBitVec.toNat, Int32.toBitVec_inj.mp (by show _ = BitVec.ofNat 32 _; simp)⟩
theorem RD_self (H : MH) : RD H (gI H 55) (gI H 59) = H := by
  unfold RD
  rw [rI_self, rI_self]
theorem fset_self {f : Nat → Int32} {p c : Nat} (h5 : f 5 = nI p) (h7 : f 7 = nI c) : fset f p c = f := by
  funext j
  unfold fset
  by_cases a : j = 5
  · rw [if_pos a, a, h5]
  · rw [if_neg a]
    by_cases b : j = 7
    · rw [if_pos b, b, h7]
    · rw [if_neg b]
theorem up_8 (f : Nat → Int32) (q c : Nat) (x : Int32) : va_up (fset f q c) 8 x = fset (va_up f 8 x) q c := by
  funext j
  unfold va_up fset
  by_cases e : j = 8
  · simp [e]
  · simp [e]
theorem up_70 (f : Nat → Int32) (q c : Nat) : va_up (fset f q c) 7 0 = fset f q 0 := up_7 f q c 0
theorem TPE_row {H H' : MH} {tk ts tv : Nat → Nat} {T : Nat} (t : TPE H tk ts tv T) (e : ∀ a, a = 50 ∨ a = 52 ∨ a = 53 ∨ a = 54 → gI H' a = gI H a) : TPE H' tk ts tv T := by
  unfold TPE
  rw [e 50 (by omega), e 52 (by omega), e 53 (by omega), e 54 (by omega)]
  exact t
theorem lwO_row {H H' : MH} (r : RWR H H') {l : Nat} {o : Option Den} (w : lwO H l o) : lwO H' l o := by
  refine lwO_sm (Z := RSC) ⟨r.1, fun a _ => r.2.1 a, fun a ha _ => ?_⟩ w
  rcases ha with z | z
  · exact r.2.2 a z
  · exact r.2.2 a (fun q => by have : ∀ a, a ∈ RSC → a < 84 := by decide
                               have := this a q; omega)
def CFL (h0 : MH) (ts : Nat → Nat) (H : MH) (nl fl q : Nat) : Prop := CQ h0 H nl ∧ gI H 55 11 = nI fl ∧ gI H 55 12 = nI (ts q)
theorem lay_W2 {H H' : MH} {n : Nat} (L : lay H) (w : W2 H H' n) : lay H' := by
  obtain ⟨l1, l2, l3, l4, l5, l6, l7, l8, l9, l10⟩ := L
  have k : ∀ a, kd H' a = kd H a := fun a => by unfold kd; rw [w.1]
  have l : ∀ a, ln H' a = ln H a := fun a => by unfold ln; rw [w.1]
  have m : mN H' = mN H := by unfold mN; rw [w.1]
  refine ⟨by omega, fun a ha => (k a).trans (l2 a ha), fun a h1 ha => (l a).trans (l3 a h1 ha), fun q hq => by rw [w.2.1]; exact l4 q hq, ?_⟩
  rw [w.2.2.1 2 (by decide) (by decide), w.2.2.1 3 (by decide) (by decide), w.2.2.1 6 (by decide) (by decide), w.2.2.1 7 (by decide) (by decide), w.2.2.1 4 (by decide) (by decide), w.2.2.1 5 (by decide) (by decide)]
  exact ⟨l5, l6, l7, l8, l9, l10⟩
section CLA
theorem c_fl {h0 : MH} {H : MH} {tk : Nat → Nat} {ts : Nat → Nat} {tv : Nat → Nat} {T : Nat} {p : Nat} {n : Nat} {nl : Nat} {K : Nat → Nat} {F : Nat → Nat} {S : Nat → Nat} {dt : Option Den} {ds : Option Den} (C : CST h0 H tk ts tv T p n nl K F S dt ds) {H1 : MH} {f g : Nat → Int32} {q c fl : Nat} (r : RWR H H1) (L : lay H1) : CFL h0 ts (RD H1 (fset (flt f (nI fl) (nI (ts q))) q c) g) nl fl q := by
  refine ⟨CQ_row C.1 (RWR_tr r (RWR_RD H1 _ _)) (lay_RD L _ _), ?_, ?_⟩
  · rw [gI_RD55]; rfl
  · rw [gI_RD55]; rfl
theorem x_clause {h0 : MH} {H : MH} {tk : Nat → Nat} {ts : Nat → Nat} {tv : Nat → Nat} {T : Nat} {p : Nat} {n : Nat} {nl : Nat} {K : Nat → Nat} {F : Nat → Nat} {S : Nat → Nat} {dt : Option Den} {ds : Option Den} (C : CST h0 H tk ts tv T p n nl K F S dt ds) {D : Nat} (hD : 70 ≤ D) : (∃ H' q K' F' S' m v, F_X4_clause D H = some (.int 1, H') ∧ CLO tk tv p q K' F' S' m v ∧ (n < 24 ∧ ¬ (K' = 0 ∧ dt.isSome = true) ∧ ¬ (K' = 1 ∧ ds.isSome = true)) ∧ CST h0 H' tk ts tv T q (n + 1) (nl + if K' ≤ 1 then 1 else 0) (va_up K n K') (va_up F n F') (va_up S n S') (if K' = 0 then some v else dt) (if K' = 1 then some v else ds)) ∨ (∃ H' fl q, F_X4_clause D H = some (.int 0, H') ∧ CLN tk tv dt.isSome ds.isSome n p fl q ∧ (q ≤ T ∧ 1 ≤ fl ∧ fl ≤ 6) ∧ CFL h0 ts H' nl fl q) := by
  obtain ⟨C1, C2, ⟨e5, e6, hp, hn⟩, C4, ⟨C5, C6⟩, C7, C8⟩ := C
  have C0 : CST h0 H tk ts tv T p n nl K F S dt ds := ⟨C1, C2, ⟨e5, e6, hp, hn⟩, C4, ⟨C5, C6⟩, C7, C8⟩
  obtain ⟨d, rfl⟩ : ∃ d, D = d + 1 := ⟨D - 1, by omega⟩
  obtain ⟨c0, e7⟩ := w_of32 (gI H 55 7)
  have L := C1.1.1
  obtain ⟨f, hf⟩ : ∃ f, f = gI H 55 := ⟨_, rfl⟩
  obtain ⟨g, hg⟩ : ∃ g, g = gI H 59 := ⟨_, rfl⟩
  have hH : H = RD H (fset f p c0) g := by
    rw [hf, hg, fset_self e5 e7, RD_self]
  have f6 : f 6 = nI n := by rw [hf]; exact e6
  have hT := C2.1.1
  have htk := (C2.2.1 p hp).2.2.2.1
  have LR := lay_RD L (fset f p c0) g
  -- any slides flag serves the steps that don't ask for it
  have X0 : RDX H tk ts tv T (va_up f 8 0) false := ⟨L, C2, va_same _ _ _⟩
  have kind0 : F_X4_kind d (RD H (fset f p c0) g) = some (.int (nI (tk p)), RD H (fset f p c0) g) := by
    obtain ⟨e, rfl⟩ : ∃ e, d = e + 1 := ⟨d - 1, by omega⟩
    rw [S_X4_kind LR]
    simp (disch := omega) only [gI_RD55, gI_RDo, fset_5, nI_ltI, nI_leI, nI_eq, nIl, nIL, nIe, nIz, ib_nIi, ib_L, ix_L, ck_pos, if_pos, if_neg, lt_def, ck_true, true_and, and_true, true_or, or_true, ix_nI, nI_1, nIa, nIb, nI_add, cI_some, cR_some, cL_some, cV_some, if_true, if_false, Bool.false_eq_true, ne_eq, not_true_eq_false, not_false_eq_true, (C2.2.1 p hp).1]
  have ref0 : ∀ x, F_X4_refuse d x (RD H (fset f p c0) g) = some (.int 0, RD H (fset (flt f x (nI (ts p))) p c0) g) := by
    intro x
    obtain ⟨e, rfl⟩ : ∃ e, d = e + 1 := ⟨d - 1, by omega⟩
    have e5 : va_up (fset f p c0) 11 x 5 = nI p := rfl
    rw [S_X4_refuse LR]
    simp (disch := omega) only [gI_RD55, gI_RDo, nI_ltI, nI_leI, nI_eq, nIl, nIL, nIe, nIz, ib_nIi, ib_L, ix_L, ck_pos, if_pos, if_neg, lt_def, ck_true, true_and, and_true, true_or, or_true, ix_nI, nI_1, nIa, nIb, nI_add, cI_some, cR_some, cL_some, cV_some, if_true, if_false, Bool.false_eq_true, ne_eq, not_true_eq_false, not_false_eq_true, sI_RD55, e5, (C2.2.1 p hp).2.1, up_f]
  have rfl0 : RWR H H := ⟨rfl, fun _ => rfl, fun _ _ => rfl⟩
  have ee : F_X4_clause (d + 1) H = F_X4_clause (d + 1) (RD H (fset f p c0) g) := by rw [← hH]
  rw [ee, S_X4_clause LR, kind0, cI_some]
  obtain ⟨e, rfl⟩ : ∃ e, d = e + 1 := ⟨d - 1, by omega⟩
  rw [S_X10_within LR]
  by_cases c1 : 300 ≤ tk p ∧ tk p ≤ 307
  rotate_left
  · have ew : (if nI (tk p) < 300 then some (Value.int 0, RD H (fset f p c0) g) else if nI (tk p) ≤ 307 then some (Value.int 1, RD H (fset f p c0) g) else some (Value.int 0, RD H (fset f p c0) g)) = some (Value.int 0, RD H (fset f p c0) g) := by
      by_cases q : tk p < 300
      · rw [if_pos (by rw [nIl (by omega) (by decide)]; exact q)]
      · rw [if_neg (by rw [nIl (by omega) (by decide)]; exact q), if_neg (by rw [nIL (by omega) (by decide)]; show ¬ tk p ≤ 307; omega)]
    rw [ew, cI_some, if_pos rfl, ref0, cI_some, ckm0]
    exact Or.inr ⟨_, 1, p, rfl, Or.inl ⟨c1, rfl, rfl⟩, ⟨hp, by omega, by omega⟩, c_fl C0 rfl0 L⟩
  rw [if_neg (by rw [nIl (by omega) (by decide)]; show ¬ tk p < 300; omega), if_pos (by rw [nIL (by omega) (by decide)]; exact c1.2), cI_some, if_neg (by decide)]
  obtain ⟨K', hK'⟩ : ∃ K', tk p = 300 + K' := ⟨tk p - 300, by omega⟩
  have hK7 : K' ≤ 7 := by omega
  have r9 : gR (RD H (fset f p c0) g) 55 9 = gR H 55 9 := rfl
  have r10 : gR (RD H (fset f p c0) g) 55 10 = gR H 55 10 := rfl
  have z9 : gR H 55 9 = 0 ↔ dt.isSome = false := by
    cases dt with
    | none => exact ⟨fun _ => rfl, fun _ => C5⟩
    | some v => obtain ⟨cc, st, len, need, a, b, r⟩ := C5; exact ⟨fun z => by omega, fun z => by cases z⟩
  have z10 : gR H 55 10 = 0 ↔ ds.isSome = false := by
    cases ds with
    | none => exact ⟨fun _ => rfl, fun _ => C6⟩
    | some v => obtain ⟨cc, st, len, need, a, b, r⟩ := C6; exact ⟨fun z => by omega, fun z => by cases z⟩
  have twice : (tk p = 300 ∧ dt.isSome = true ∨ tk p = 301 ∧ ds.isSome = true) → (if nI (tk p) = 300 then (if gR (RD H (fset f p c0) g) 55 9 = 0 then G_X4_clause_18 (e + 1) (nI (tk p)) (RD H (fset f p c0) g) else G_X4_clause_24 (e + 1) (nI (tk p)) (RD H (fset f p c0) g)) else G_X4_clause_18 (e + 1) (nI (tk p)) (RD H (fset f p c0) g)) = some (.int 0, RD H (fset (flt f 4 (nI (ts p))) p c0) g) := by
    have e24 : G_X4_clause_24 (e + 1) (nI (tk p)) (RD H (fset f p c0) g) = some (.int 0, RD H (fset (flt f 4 (nI (ts p))) p c0) g) := by
      rw [S_X4_clause_24 LR, ref0, cI_some, ckm0]
    rintro (⟨z1, z2⟩ | ⟨z1, z2⟩)
    · rw [if_pos (by rw [z1]; rfl), r9, if_neg (fun z => by rw [z9.mp z] at z2; cases z2), e24]
    · rw [if_neg (by rw [z1]; decide), S_X4_clause_18 LR, if_pos (by rw [z1]; rfl), r10, if_neg (fun z => by rw [z10.mp z] at z2; cases z2), e24]
  have once : (¬ (K' = 0 ∧ dt.isSome = true) ∧ ¬ (K' = 1 ∧ ds.isSome = true)) → (if nI (tk p) = 300 then (if gR (RD H (fset f p c0) g) 55 9 = 0 then G_X4_clause_18 (e + 1) (nI (tk p)) (RD H (fset f p c0) g) else G_X4_clause_24 (e + 1) (nI (tk p)) (RD H (fset f p c0) g)) else G_X4_clause_18 (e + 1) (nI (tk p)) (RD H (fset f p c0) g)) = G_X4_clause_28 (e + 1) (nI (tk p)) (RD H (fset f p c0) g) := by
    rintro ⟨z1, z2⟩
    have e18 : G_X4_clause_18 (e + 1) (nI (tk p)) (RD H (fset f p c0) g) = G_X4_clause_28 (e + 1) (nI (tk p)) (RD H (fset f p c0) g) := by
      rw [S_X4_clause_18 LR]
      by_cases q : tk p = 301
      · rw [if_pos (by rw [q]; rfl), r10, if_pos (z10.mpr (by
          cases h : ds.isSome with
          | false => rfl
          | true => exact absurd ⟨by omega, h⟩ z2))]
      · rw [if_neg (by rw [nIe (by omega) (by decide)]; exact q)]
    by_cases q : tk p = 300
    · rw [if_pos (by rw [q]; rfl), r9, if_pos (z9.mpr (by
          cases h : dt.isSome with
          | false => rfl
          | true => exact absurd ⟨by omega, h⟩ z1)), e18]
    · rw [if_neg (by rw [nIe (by omega) (by decide)]; exact q), e18]
  by_cases c2 : tk p = 300 ∧ dt.isSome = true ∨ tk p = 301 ∧ ds.isSome = true
  · rw [twice c2]
    exact Or.inr ⟨_, 4, p, rfl, Or.inr (Or.inl ⟨c2, rfl, rfl⟩), ⟨hp, by omega, by omega⟩, c_fl C0 rfl0 L⟩
  have c2' : ¬ (K' = 0 ∧ dt.isSome = true) ∧ ¬ (K' = 1 ∧ ds.isSome = true) := ⟨fun z => c2 (Or.inl ⟨by omega, z.2⟩), fun z => c2 (Or.inr ⟨by omega, z.2⟩)⟩
  rw [once c2', S_X4_clause_28 LR, gI_RD55, fset_6, f6]
  by_cases c3 : n < 24
  rotate_left
  · rw [if_neg (by rw [nIl (by omega) (by decide)]; exact c3), ref0, cI_some, ckm0]
    exact Or.inr ⟨_, 6, p, rfl, Or.inr (Or.inr ⟨K', hK', hK7, c2', Or.inl ⟨by omega, rfl, rfl⟩⟩), ⟨hp, by omega, by omega⟩, c_fl C0 rfl0 L⟩
  rw [if_pos (by rw [nIl (by omega) (by decide)]; exact c3), ck_pos ((ib_nIi (by omega)).mpr c3), ix_nI (by omega), sI_RDo _ _ _ (by decide) (by decide), lt_def, gI_RD55, fset_6, f6, ck_pos ((ib_nIi (by omega)).mpr c3), ix_nI (by omega), sI_RDo _ _ _ (by decide) (by decide), lt_def, gI_RD55, fset_6, f6, ck_pos ((ib_nIi (by omega)).mpr c3), ix_nI (by omega), sI_RDo _ _ _ (by decide) (by decide), lt_def, sI_RD55, up_70, lt_def]
  obtain ⟨h1, eh1⟩ : ∃ h1, h1 = sI (sI (sI H 56 n (nI (tk p))) 57 n 0) 58 n 0 := ⟨_, rfl⟩
  rw [← eh1]
  have L1 : lay h1 := by rw [eh1]; exact lay_rI (lay_rI (lay_rI L (by decide)) (by decide)) (by decide)
  have R1 : RWR H h1 := by rw [eh1]; exact RWR_tr (RWR_tr (RWR_rI H (by decide) _) (RWR_rI _ (by decide) _)) (RWR_rI _ (by decide) _)
  have G1 : ∀ a, gI h1 a = if a = 58 then va_up (gI H 58) n 0 else if a = 57 then va_up (gI H 57) n 0 else if a = 56 then va_up (gI H 56) n (nI (tk p)) else gI H a := fun a => by
    rw [eh1, gI_sIe]
    by_cases q1 : a = 58
    · rw [if_pos q1, if_pos q1, gI_sIe, if_neg (by decide), gI_sIe, if_neg (by decide)]
    · rw [if_neg q1, if_neg q1, gI_sIe]
      by_cases q2 : a = 57
      · rw [if_pos q2, if_pos q2, gI_sIe, if_neg (by decide)]
      · rw [if_neg q2, if_neg q2, gI_sIe]
  obtain ⟨f1, ef1⟩ : ∃ f1, f1 = va_up f 8 (if (K' == 1) = true then 1 else 0) := ⟨_, rfl⟩
  have T1 : TPE h1 tk ts tv T := TPE_row C2 (fun a ha => by rw [G1, if_neg (by omega), if_neg (by omega), if_neg (by omega)])
  have X1 : RDX h1 tk ts tv T f1 (K' == 1) := ⟨L1, T1, by rw [ef1, va_same]⟩
  have f16 : f1 6 = nI n := by rw [ef1, va_ne _ _ (by decide)]; exact f6
  have f111 : f1 11 = 0 := by rw [ef1, va_ne _ _ (by decide), hf]; exact C7
  have f112 : f1 12 = -1 := by rw [ef1, va_ne _ _ (by decide), hf]; exact C8
  have hlt := lt_T X1 hp (by omega)
  have e64 : (if nI (tk p) = 301 then G_X4_clause_64 (e + 1) (nI (tk p)) 1 (RD h1 (fset f p 0) g) else G_X4_clause_64 (e + 1) (nI (tk p)) 0 (RD h1 (fset f p 0) g)) = (if nI (tk p) ≤ 301 then cI (F_X4_sum (e + 1) (nI 0) (RD h1 (fset f1 (p + 1) 0) g)) (fun x23 h22 => G_X4_clause_77 (e + 1) (nI (tk p)) x23 h22) else cI (F_X4_numbers (e + 1) (nI (300 + K')) (RD h1 (fset f1 (p + 1) 0) g)) (fun x25 h24 => G_X4_clause_77 (e + 1) (nI (tk p)) x25 h24)) := by
    have go : ∀ x : Int32, (x = 0 ∨ x = 1) → va_up f 8 x = f1 → G_X4_clause_64 (e + 1) (nI (tk p)) x (RD h1 (fset f p 0) g) = (if nI (tk p) ≤ 301 then cI (F_X4_sum (e + 1) (nI 0) (RD h1 (fset f1 (p + 1) 0) g)) (fun x23 h22 => G_X4_clause_77 (e + 1) (nI (tk p)) x23 h22) else cI (F_X4_numbers (e + 1) (nI (300 + K')) (RD h1 (fset f1 (p + 1) 0) g)) (fun x25 h24 => G_X4_clause_77 (e + 1) (nI (tk p)) x25 h24)) := by
      intro x hx hv
      rw [S_X4_clause_64 (lay_RD L1 _ _), ck_pos hx, sI_RD55, up_8, hv, lt_def, r_adv X1 (by omega) hlt, cV_some, hK']
      rfl
    by_cases q : K' = 1
    · rw [if_pos (by rw [hK', q]; rfl)]
      exact go 1 (Or.inr rfl) (by rw [ef1, q]; rfl)
    · rw [if_neg (by rw [nIe (by omega) (by decide)]; show ¬ tk p = 301; omega)]
      exact go 0 (Or.inl rfl) (by rw [ef1, if_neg (by simpa using q)])
  rw [e64]
  have recs : ∀ (H4 : MH) (F' S' : Nat), gI H4 56 = gI h1 56 → (∀ j, ¬ j = n → gI H4 57 j = gI h1 57 j) → (∀ j, ¬ j = n → gI H4 58 j = gI h1 58 j) → gI H4 57 n = nI F' → gI H4 58 n = nI S' → ∀ i, i < n + 1 → gI H4 56 i = nI (300 + va_up K n K' i) ∧ gI H4 57 i = nI (va_up F n F' i) ∧ gI H4 58 i = nI (va_up S n S' i) := by
    intro H4 F' S' q1 q2 q3 q4 q5 i hi
    rcases Nat.lt_or_ge i n with z | z
    · have hz : ¬ i = n := by omega
      rw [va_ne _ _ hz, va_ne _ _ hz, va_ne _ _ hz, q1, q2 i hz, q3 i hz, G1, G1, G1, if_neg (by decide), if_neg (by decide), if_pos rfl, if_neg (by decide), if_pos rfl, if_pos rfl, va_ne _ _ hz, va_ne _ _ hz, va_ne _ _ hz]
      exact C4 i z
    · have hz : i = n := by omega
      subst hz
      rw [va_same, va_same, va_same, q1, q4, q5, G1, if_neg (by decide), if_neg (by decide), if_pos rfl, va_same, hK']
      exact ⟨rfl, rfl, rfl⟩
  by_cases c4 : K' ≤ 1
  · rw [if_pos (by rw [nIL (by omega) (by decide)]; show tk p ≤ 301; omega)]
    rcases (x_all X1 8 0 rfl).2.1 (e + 1) (p + 1) 0 g (by omega) (by omega) (by omega) with ⟨n2, k2, m, v, q, g2, es, ⟨a1, a2⟩, ⟨a3, a4⟩, a5, a6, a7⟩ | ⟨fl, q, cc, g2, es, ⟨a1, a2, a3, a4⟩, a5⟩
    rotate_left
    · rw [es, cI_some, S_X4_clause_77 (lay_RD L1 _ _), if_pos rfl]
      exact Or.inr ⟨_, fl, q, rfl, Or.inr (Or.inr ⟨K', hK', hK7, c2', Or.inr ⟨c3, Or.inl ⟨c4, Or.inl a5⟩⟩⟩), ⟨a1, a3, a4⟩, c_fl C0 R1 L1⟩
    rw [es, cI_some, S_X4_clause_77 (lay_RD L1 _ _), if_neg (by decide)]
    by_cases t1 : tk q = 59
    rotate_left
    · rw [show F_X4_expect (e + 1) 59 (RD h1 (fset f1 q (0 + n2)) g2) = _ from r_expN X1 (D := e + 1) (by omega) (t := 59) a1 (by omega) t1 (0 + n2) g2, cI_some, if_pos rfl]
      exact Or.inr ⟨_, 1, q, rfl, Or.inr (Or.inr ⟨K', hK', hK7, c2', Or.inr ⟨c3, Or.inl ⟨c4, Or.inr ⟨m, a6, a7, t1, rfl⟩⟩⟩⟩), ⟨a1, by omega, by omega⟩, c_fl C0 R1 L1⟩
    have hl2 := lt_T X1 a1 (by omega)
    rw [show F_X4_expect (e + 1) 59 (RD h1 (fset f1 q (0 + n2)) g2) = _ from r_expY X1 (D := e + 1) (by omega) (t := 59) a1 (by omega) (by omega) t1 (0 + n2) g2, cI_some, if_neg (by decide)]
    obtain ⟨H2, eH2⟩ : ∃ H2, H2 = RD h1 (fset f1 (q + 1) (0 + n2)) g2 := ⟨_, rfl⟩
    rw [← eH2]
    have R2 : RWR H H2 := by rw [eH2]; exact RWR_tr R1 (RWR_RD h1 _ _)
    have Q2 : CQ h0 H2 nl := CQ_row C1 R2 (by rw [eH2]; exact lay_RD L1 _ _)
    have g55 : gI H2 55 = fset f1 (q + 1) (0 + n2) := by rw [eH2, gI_RD55]
    have g59 : gI H2 59 = g2 := by rw [eH2, gI_RD59]
    have gH2 : ∀ a, ¬ a = 55 → ¬ a = 59 → gI H2 a = gI h1 a := fun a q1 q2 => by rw [eH2, gI_RDo _ _ _ q1 q2]
    obtain ⟨H3, k1, k2', k3, k4, k5, ⟨k6, k7⟩, k8, k9, g', k10, k11, k12, k13⟩ := c_keep Q2.1.1 Q2.1.2.1 Q2.1.2.2 (D := e + 1) (by omega) (n := n2) (by omega) (by rw [g55, fset_7, Nat.zero_add]) (w := 300 + K') (k := 9 + K') (by omega)
    have e6' : gI H3 55 6 = nI n := by rw [(k8 55 (by decide)).1, g55, fset_6]; exact f16
    obtain ⟨H4, eH4⟩ : ∃ H4, H4 = sI H3 55 6 (nI (n + 1)) := ⟨_, rfl⟩
    have R4 : RWR H3 H4 := by rw [eH4]; exact RWR_rI H3 (by decide) _
    have L4 : lay H4 := by rw [eH4]; exact lay_rI k2' (by decide)
    have h84 : 84 ≤ mN h0 := C1.2.2.2.2.2
    have Q3 : CQ h0 H3 (nl + 1) := by
      refine ⟨⟨k2', k3, k4⟩, EXT_tr Q2.2.1 k5 h84, fun a ha => ?_, ?_, ?_, h84⟩
      · obtain ⟨u1, u2, u3⟩ := k8 a ha
        obtain ⟨v1, v2, v3⟩ := Q2.2.2.1 a ha
        refine ⟨u2.trans v1, fun z => u1.trans (v2 z), fun z => ?_⟩
        rw [← v3 z]
        funext j
        exact u3 j (fun w => z w.1)
      · rw [k6, Q2.2.2.2.1]; omega
      · have := Q2.2.2.2.2.1
        rw [k7]; omega
    have Q4 : CQ h0 H4 (nl + 1) := CQ_row Q3 R4 L4
    have gH4 : ∀ a, a < 84 → ¬ a = 55 → gI H4 a = gI H2 a := fun a ha q1 => by rw [eH4, gI_sIe, if_neg q1, (k8 a ha).1]
    have g4 : gI H4 55 = va_up (fset f1 (q + 1) (0 + n2)) 6 (nI (n + 1)) := by rw [eH4, gI_sIe, if_pos rfl, (k8 55 (by decide)).1, g55]
    have r4 : ∀ j, gR H4 55 j = gR H3 55 j := fun j => by rw [R4.2.1]
    have nw : lwO H4 (mN H2) (some v) := by
      refine lwO_row R4 (o := some v) ?_
      refine ⟨mN H2 + 1, mN H2 + 2, n2, 5 * (8 - 0) + 3, k12, by have := Q2.1.1.1; omega, by have := Q2.1.1.1; omega, k13, ?_, by omega, a5.2.2.2⟩
      have := a5.1 (gI H3 (mN H2 + 1)) 0 (by omega) (fun j hj => by rw [k11, Nat.zero_add, k10 j hj, g59]; have := a4 j hj; rwa [Nat.zero_add] at this)
      rwa [Nat.zero_add] at this
    have old : ∀ {l : Nat} {o : Option Den}, lwO H l o → lwO H4 l o := fun w => lwO_row R4 (lwO_ext Q2.1.2.1 Q2.1.1.1 k5 (lwO_row R2 w))
    refine Or.inl ⟨H4, q + 1, K', 0, 0, m, v, ?_, ⟨hK', Or.inl ⟨c4, q, a6, a7, t1, rfl, a5.2.2.1, a5.2.2.2⟩⟩, ⟨c3, c2'⟩, by rw [if_pos c4]; exact Q4, ?_, ⟨?_, ?_, by omega, by omega⟩, ?_, ⟨?_, ?_⟩, by rw [g4]; exact f111, by rw [g4]; exact f112⟩
    · rw [hK', k1, cV_some, e6', nI_1, lt_def, eH4]
    · exact TPE_row T1 (fun a ha => by rw [gH4 a (by omega) (by omega), gH2 a (by omega) (by omega)])
    · rw [g4]; rfl
    · rw [g4, va_same]
    · refine recs H4 0 0 ?_ (fun j hj => ?_) (fun j hj => ?_) ?_ ?_
      · rw [gH4 56 (by decide) (by decide), gH2 56 (by decide) (by decide)]
      · rw [gH4 57 (by decide) (by decide), gH2 57 (by decide) (by decide)]
      · rw [gH4 58 (by decide) (by decide), gH2 58 (by decide) (by decide)]
      · rw [gH4 57 (by decide) (by decide), gH2 57 (by decide) (by decide), G1, if_neg (by decide), if_pos rfl, va_same]; rfl
      · rw [gH4 58 (by decide) (by decide), gH2 58 (by decide) (by decide), G1, if_pos rfl, va_same]; rfl
    · rw [r4]
      by_cases z : K' = 0
      · rw [if_pos z, show (9 : Nat) = 9 + K' by omega, k9]; exact nw
      · rw [if_neg z, (k8 55 (by decide)).2.2 9 (by omega), R2.2.1]; exact old C5
    · rw [r4]
      by_cases z : K' = 1
      · rw [if_pos z, show (10 : Nat) = 9 + K' by omega, k9]; exact nw
      · rw [if_neg z, (k8 55 (by decide)).2.2 10 (by omega), R2.2.1]; exact old C6
  · rw [if_neg (by rw [nIL (by omega) (by decide)]; show ¬ tk p ≤ 301; omega)]
    rcases r_nums X1 (D := e + 1) (p := p + 1) (c := 0) (n := n) (K := K') (by omega) (by omega) c3 f16 (by omega) g (by rw [G1, if_pos rfl, va_same]) with ⟨q, F', S', h', b1, b2, b3, b4, b5, b6⟩ | ⟨fl, q, h', b1, ⟨b2, b3, b4⟩, b5, b6⟩
    rotate_left
    · have L' : lay h' := lay_W2 L1 b6
      rw [b5, cI_some, S_X4_clause_77 (lay_RD L' _ _), if_pos rfl]
      exact Or.inr ⟨_, fl, q, rfl, Or.inr (Or.inr ⟨K', hK', hK7, c2', Or.inr ⟨c3, Or.inr ⟨by omega, Or.inl b1⟩⟩⟩), ⟨b2, b3, b4⟩, c_fl C0 (RWR_tr R1 (RWR_W2 b6)) L'⟩
    have L' : lay h' := lay_W2 L1 b4
    have X' := X_W2 X1 b4 L'
    rw [b3, cI_some, S_X4_clause_77 (lay_RD L' _ _), if_neg (by decide)]
    by_cases t1 : tk q = 59
    rotate_left
    · rw [show F_X4_expect (e + 1) 59 (RD h' (fset f1 q 0) g) = _ from r_expN X' (D := e + 1) (by omega) (t := 59) b2 (by omega) t1 0 g, cI_some, if_pos rfl]
      exact Or.inr ⟨_, 1, q, rfl, Or.inr (Or.inr ⟨K', hK', hK7, c2', Or.inr ⟨c3, Or.inr ⟨by omega, Or.inr ⟨F', S', b1, t1, rfl⟩⟩⟩⟩), ⟨b2, by omega, by omega⟩, c_fl C0 (RWR_tr R1 (RWR_W2 b4)) L'⟩
    have hl2 := lt_T X' b2 (by omega)
    rw [show F_X4_expect (e + 1) 59 (RD h' (fset f1 q 0) g) = _ from r_expY X' (D := e + 1) (by omega) (t := 59) b2 (by omega) (by omega) t1 0 g, cI_some, if_neg (by decide), S_X4_keepLaw (lay_RD L' _ _), if_neg (by rw [nIe (by omega) (by decide)]; show ¬ tk p = 300; omega), if_neg (by rw [nIe (by omega) (by decide)]; show ¬ tk p = 301; omega), cV_some, gI_RD55, fset_6, f16, nI_1, sI_RD55, lt_def]
    have R4 : RWR H (RD h' (va_up (fset f1 (q + 1) 0) 6 (nI (n + 1))) g) := RWR_tr R1 (RWR_tr (RWR_W2 b4) (RWR_RD h' _ _))
    have w3 := b4.2.2
    refine Or.inl ⟨_, q + 1, K', F', S', [], fun _ _ => 0, rfl, ⟨hK', Or.inr ⟨by omega, hK7, q, b1, t1, rfl, rfl⟩⟩, ⟨c3, c2'⟩, by rw [if_neg c4]; exact CQ_row C1 R4 (lay_RD L' _ _), ?_, ⟨by rw [gI_RD55]; rfl, by rw [gI_RD55, va_same], by omega, by omega⟩, ?_, ⟨?_, ?_⟩, by rw [gI_RD55]; exact f111, by rw [gI_RD55]; exact f112⟩
    · exact TPE_row X'.2.1 (fun a ha => by rw [gI_RDo _ _ _ (by omega) (by omega)])
    · refine recs _ F' S' ?_ (fun j hj => ?_) (fun j hj => ?_) ?_ ?_
      · rw [gI_RDo _ _ _ (by decide) (by decide)]; exact w3.1 56 (by decide) (by decide)
      · rw [gI_RDo _ _ _ (by decide) (by decide)]; exact w3.2 57 j hj
      · rw [gI_RDo _ _ _ (by decide) (by decide)]; exact w3.2 58 j hj
      · rw [gI_RDo _ _ _ (by decide) (by decide)]; exact b5
      · rw [gI_RDo _ _ _ (by decide) (by decide)]; exact b6
    · rw [if_neg (by omega), R4.2.1]; exact lwO_row R4 C5
    · rw [if_neg (by omega), R4.2.1]; exact lwO_row R4 C6
end CLA
