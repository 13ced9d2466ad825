--deps:19.lay 21.facts 22.00.names 22.01.eq 22.02.eq 22.03.eq 22.04.eq 22.05.eq 22.06.eq 22.07.eq 22.08.eq 22.09.eq 22.10.eq 22.11.eq 22.12.eq 22.13.eq 22.14.eq 22.15.eq 22.16.eq 22.17.eq 22.18.eq 22.19.eq 22.20.eq 22.21.eq 22.22.eq 22.23.eq 23.num 24.town 25.evc 26.evm 27.law 28.says 29.inv 71.yard 72.yard2 73.gx 74.gx2 75.gx3 76.reader
/-! THE CLASS'S READER: levels of the grammar -/
set_option linter.unusedSectionVars false
def CR (h : MH) (ts : Nat → Nat) (T : Nat) (f : Nat → Int32) (p cl : Nat) (g : Nat → Int32) (ok : Nat → (Nat → Nat → Nat) → List (Nat × Nat) → Den → Nat → Prop) (no : Nat → Nat → Prop) (E : Option (Value × MH)) : Prop :=
  (∃ n k m v q g', E = some (.int 1, RD h (fset f q (cl + n)) g') ∧ (q ≤ T ∧ p + n ≤ q) ∧ ((∀ j, j < cl → g' j = g j) ∧ (∀ j, j < n → g' (cl + j) = nI (k cl j))) ∧ ok n k m v q) ∨
  (∃ fl q c g', E = some (.int 0, RD h (fset (flt f (nI fl) (nI (ts q))) q c) g') ∧ (q ≤ T ∧ c ≤ 300 ∧ 1 ≤ fl ∧ fl ≤ 6) ∧ no fl q)
def AX (ty : Bool) (tk : Nat → Nat) (p : Nat) (A : List Nat → Prop) : List Nat → Prop := match ty with
  | true => A
  | false => AN tk p A
def NN (sl : Bool) : Nat := if sl = true then 7 else 4
def PONE (h : MH) (tk ts tv : Nat → Nat) (T : Nat) (f : Nat → Int32) (sl : Bool) (o : Nat) : Prop := ∀ D p cl g, 7 * (8 - o) + 3 ≤ D → p ≤ T → cl ≤ p → CR h ts T f p cl g (fun n k m v q => GX false (NN sl) (5 * (8 - o) + 1) n k m v ∧ ONE tk tv sl o p m q) (fun fl q => NOO tk tv sl (AN tk p (A9 o)) o p fl q) (F_X4_one D (nI o) (RD h (fset f p cl) g))
def PLV (h : MH) (tk ts tv : Nat → Nat) (T : Nat) (f : Nat → Int32) (sl : Bool) (F : Nat → Int32 → MH → Option (Value × MH)) (dd nd ρ : Nat) (B : Prop) (A : Nat → List Nat → Prop) (ty : Bool) (tl : Nat → Prop) (o : Nat) : Prop := ∀ D p cl g, 7 * (8 - o) + dd ≤ D → p ≤ T → cl ≤ p → CR h ts T f p cl g (fun n k m v q => GX ty (NN sl) (5 * (8 - o) + nd) n k m v ∧ LEV tk tv sl ρ B (A o) o p m q ∧ tl (tk q)) (fun fl q => NOO tk tv sl (AX ty tk p (A o)) o p fl q) (F D (nI o) (RD h (fset f p cl) g))
theorem enc0 {op : Nat} (h : op < 32) : ((0 : Int32) <<< (5 &&& 31)) ||| nI op = nI op := by
  have := enc_mk (w := 0) (op := op) (by omega) h
  rwa [Nat.zero_mul, Nat.zero_add] at this
theorem sq2_lo {cl n n2 op : Nat} {g0 g g2 : Nat → Int32} (h1 : ∀ j, j < cl → g j = g0 j) (h2 : ∀ j, j < cl + n → g2 j = g j) : ∀ j, j < cl → va_up g2 (cl + n + n2) (nI op) j = g0 j := by
  intro j hj
  rw [va_ne _ _ (by omega), h2 j (by omega), h1 j hj]
theorem sq2_hi {cl n n2 op : Nat} {k k2 : Nat → Nat → Nat} {g g2 : Nat → Int32} (h1 : ∀ j, j < n → g (cl + j) = nI (k cl j)) (h2 : ∀ j, j < cl + n → g2 j = g j) (h3 : ∀ j, j < n2 → g2 (cl + n + j) = nI (k2 (cl + n) j)) : ∀ j, j < n + n2 + 1 → va_up g2 (cl + n + n2) (nI op) (cl + j) = nI (sq2 n k n2 k2 op cl j) := by
  intro j hj
  unfold sq2
  by_cases c1 : j < n
  · rw [if_pos c1, va_ne _ _ (by omega), h2 _ (by omega), h1 j c1]
  · rw [if_neg c1]
    by_cases c2 : j < n + n2
    · rw [if_pos c2, va_ne _ _ (by omega), ← h3 (j - n) (by omega), show cl + n + (j - n) = cl + j by omega]
    · rw [if_neg c2, show cl + j = cl + n + n2 by omega, va_same]
def tl0 (t : Nat) : Prop := ¬ t = 42 ∧ ¬ t = 47
def tl1 (t : Nat) : Prop := ¬ ariT t
def tl2 (t : Nat) : Prop := ¬ ariT t ∧ ¬ t = 322
def tl3 (t : Nat) : Prop := ¬ ariT t ∧ ¬ t = 322 ∧ ¬ t = 321
section RDL
theorem X_flt {h : MH} {tk : Nat → Nat} {ts : Nat → Nat} {tv : Nat → Nat} {T : Nat} {f : Nat → Int32} {sl : Bool} (X : RDX h tk ts tv T f sl) (x y : Int32) : RDX h tk ts tv T (flt f x y) sl := ⟨X.1, X.2.1, X.2.2⟩
theorem x_productL {h : MH} {tk : Nat → Nat} {ts : Nat → Nat} {tv : Nat → Nat} {T : Nat} {f : Nat → Int32} {sl : Bool} (X : RDX h tk ts tv T f sl) {o : Nat} (ho : o ≤ 8) (P1 : PONE h tk ts tv T f sl o) : ∀ (r D p0 cl : Nat) (g0 : Nat → Int32) (i : Nat) (o4 : Option Value) (n : Nat) (k : Nat → Nat → Nat) (m : List (Nat × Nat)) (v : Den) (q : Nat) (g : Nat → Int32), T - q < r → 7 * (8 - o) + 3 ≤ D → q ≤ T → p0 + n ≤ q → cl ≤ p0 → i + 1 ≤ q → (∀ j, j < cl → g j = g0 j) → (∀ j, j < n → g (cl + j) = nI (k cl j)) → GX false (NN sl) (5 * (8 - o) + 2) n k m v → LEV tk tv sl 6 False (A0 o) o p0 m q → (fun _ => True) (tk q) → CR h ts T f p0 cl g0 (fun n k m v q => GX false (NN sl) (5 * (8 - o) + 2) n k m v ∧ LEV tk tv sl 6 False (A0 o) o p0 m q ∧ tl0 (tk q)) (fun fl q => NOO tk tv sl (AN tk p0 (A0 o)) o p0 fl q) (G_X4_product_6 D (nI o) 1 (nI i) o4 (RD h (fset f q (cl + n)) g)) := by
  intro r
  induction r with
  | zero => intro D p0 cl g0 i o4 n k m v q g hr; omega
  | succ r ih =>
    intro D p0 cl g0 i o4 n k m v q g hr hD hq hn hcl hi hg1 hg2 GXa LV htl
    have hT := X.2.1.1.1
    have htk := (X.2.1.2.1 q hq).2.2.2.1
    rw [S_X4_product_6 (lay_RD X.1 _ _), if_pos (by rw [nIl (by omega) (by decide)]; show i < 300; omega), if_neg (by decide), r_kind X (by omega) hq, cI_some]
    by_cases c0 : opT 0 (tk q) = 0
    · have e1 : ¬ tk q = 42 ∧ ¬ tk q = 47 := ⟨fun e => absurd (e ▸ c0) (by decide), fun e => absurd (e ▸ c0) (by decide)⟩
      rw [if_neg (by rw [nIe (by omega) (by decide)]; exact e1.1), r_kind X (by omega) hq, cI_some, if_neg (by rw [nIe (by omega) (by decide)]; exact e1.2), ckm1]
      exact Or.inl ⟨n, k, m, v, q, g, rfl, ⟨hq, hn⟩, ⟨hg1, hg2⟩, GXa, LV, e1⟩
    · have ek : tk q = 42 ∨ tk q = 47 := by
        unfold opT at c0
        rw [if_pos rfl] at c0
        by_cases e1 : tk q = 42
        · exact Or.inl e1
        · rw [if_neg e1] at c0
          by_cases e2 : tk q = 47
          · exact Or.inr e2
          · rw [if_neg e2] at c0
            exact absurd rfl c0
      have hlt := lt_T X hq (by omega)
      have key : (if nI (tk q) = 42 then G_X4_product_19 D (nI o) 1 (nI i) o4 (RD h (fset f q (cl + n)) g) else cI (F_X4_kind D (RD h (fset f q (cl + n)) g)) (fun x6 h5 => (if x6 = 47 then G_X4_product_19 D (nI o) 1 (nI i) o4 h5 else ck (mrt 1 1) (some (Value.int 1, h5))))) = G_X4_product_26 D (nI o) 1 (nI i) o4 (nI (bC (opT 0 (tk q)))) (RD h (fset f q (cl + n)) g) := by
        rcases ek with e1 | e1
        · rw [if_pos (by rw [e1]; rfl), S_X4_product_19 (lay_RD X.1 _ _), r_kind X (by omega) hq, cI_some, if_pos (by rw [e1]; rfl), e1]
          rfl
        · rw [if_neg (by rw [e1]; decide), r_kind X (by omega) hq, cI_some, if_pos (by rw [e1]; rfl), S_X4_product_19 (lay_RD X.1 _ _), r_kind X (by omega) hq, cI_some, if_neg (by rw [e1]; decide), e1]
          rfl
      rw [key, S_X4_product_26 (lay_RD X.1 _ _), r_adv X (by omega) hlt, cV_some]
      have ho9 : 6 ≤ opT 0 (tk q) ∧ opT 0 (tk q) ≤ 9 := by rcases ek with e1 | e1 <;> rw [e1] <;> decide
      have hb := bC_bd (op := opT 0 (tk q)) (by omega)
      rcases P1 D (q + 1) (cl + n) g (by omega) (by omega) (by omega) with ⟨n2, k2, m2, v2, q2, g2, e2, ⟨b1, b2⟩, ⟨b3, b4⟩, b5, b6⟩ | ⟨fl, q2, c2, g2, e2, ⟨b1, b2, b3, b4⟩, b5⟩
      · rw [e2, cI_some, r_emit X (by omega) (c := cl + n + n2) (by omega) g2 (enc0 (by omega)), cI_some, nI_1, show cl + n + n2 + 1 = cl + (n + n2 + 1) by omega]
        exact ih D p0 cl g0 (i + 1) _ (n + n2 + 1) (sq2 n k n2 k2 (bC (opT 0 (tk q)))) (m ++ m2 ++ [(opT 0 (tk q), 0)]) _ q2 _ (by omega) hD b1 (by omega) hcl (by omega) (sq2_lo hg1 b3) (sq2_hi hg2 b3 b4) (GX_ari GXa b5 ho9) (lev0_go ho LV rfl c0 b6) trivial
      · obtain ⟨z, c', g', e3, hc'⟩ := r_emitF (X_flt X (nI fl) (nI (ts q2))) (D := D) (by omega) (p := q2) b2 g2 (nI (bC (opT 0 (tk q)))) 0
        rw [e2, cI_some, e3, cI_some, S_X4_product_6 (lay_RD X.1 _ _), if_pos (show (0 : Int32) = 0 from rfl), ckm0, ite_self]
        exact Or.inr ⟨fl, q2, c', g', rfl, ⟨b1, hc', b3, b4⟩, lev0_no2 LV rfl c0 b5⟩
theorem x_product {h : MH} {tk : Nat → Nat} {ts : Nat → Nat} {tv : Nat → Nat} {T : Nat} {f : Nat → Int32} {sl : Bool} (X : RDX h tk ts tv T f sl) {o : Nat} (ho : o ≤ 8) (P1 : PONE h tk ts tv T f sl o) : PLV h tk ts tv T f sl F_X4_product 4 2 6 False A0 false tl0 o := by
  intro D p cl g hD hp hcl
  obtain ⟨d, rfl⟩ : ∃ d, D = d + 1 := ⟨D - 1, by omega⟩
  rw [S_X4_product (lay_RD X.1 _ _)]
  rcases P1 d p cl g (by omega) hp hcl with ⟨n2, k2, m2, v2, q2, g2, e2, ⟨b1, b2⟩, ⟨b3, b4⟩, b5, b6⟩ | ⟨fl, q2, c2, g2, e2, ⟨b1, b2, b3, b4⟩, b5⟩
  · rw [e2, cI_some]
    have := b5.2.1
    exact x_productL X ho P1 (T - q2 + 1) d p cl g 0 none n2 k2 m2 v2 q2 g2 (by omega) (by omega) b1 b2 hcl (by omega) b3 b4 (GX_mono b5 (by omega)) (lev0_one b6) trivial
  · rw [e2, cI_some, S_X4_product_6 (lay_RD X.1 _ _), if_pos (show (0 : Int32) = 0 from rfl), ckm0, ite_self]
    exact Or.inr ⟨fl, q2, c2, g2, rfl, ⟨b1, b2, b3, b4⟩, lev0_no b5⟩
theorem x_sumL {h : MH} {tk : Nat → Nat} {ts : Nat → Nat} {tv : Nat → Nat} {T : Nat} {f : Nat → Int32} {sl : Bool} (X : RDX h tk ts tv T f sl) {o : Nat} (ho : o ≤ 8) (P1 : PLV h tk ts tv T f sl F_X4_product 4 2 6 False A0 false tl0 o) : ∀ (r D p0 cl : Nat) (g0 : Nat → Int32) (i : Nat) (o4 : Option Value) (n : Nat) (k : Nat → Nat → Nat) (m : List (Nat × Nat)) (v : Den) (q : Nat) (g : Nat → Int32), T - q < r → 7 * (8 - o) + 4 ≤ D → q ≤ T → p0 + n ≤ q → cl ≤ p0 → i + 1 ≤ q → (∀ j, j < cl → g j = g0 j) → (∀ j, j < n → g (cl + j) = nI (k cl j)) → GX false (NN sl) (5 * (8 - o) + 3) n k m v → LEV tk tv sl 5 False (A1 o) o p0 m q → tl0 (tk q) → CR h ts T f p0 cl g0 (fun n k m v q => GX false (NN sl) (5 * (8 - o) + 3) n k m v ∧ LEV tk tv sl 5 False (A1 o) o p0 m q ∧ tl1 (tk q)) (fun fl q => NOO tk tv sl (AN tk p0 (A1 o)) o p0 fl q) (G_X4_sum_6 D (nI o) 1 (nI i) o4 (RD h (fset f q (cl + n)) g)) := by
  intro r
  induction r with
  | zero => intro D p0 cl g0 i o4 n k m v q g hr; omega
  | succ r ih =>
    intro D p0 cl g0 i o4 n k m v q g hr hD hq hn hcl hi hg1 hg2 GXa LV htl
    have hT := X.2.1.1.1
    have htk := (X.2.1.2.1 q hq).2.2.2.1
    rw [S_X4_sum_6 (lay_RD X.1 _ _), if_pos (by rw [nIl (by omega) (by decide)]; show i < 300; omega), if_neg (by decide), r_kind X (by omega) hq, cI_some]
    by_cases c0 : opT 1 (tk q) = 0
    · have e1 : ¬ tk q = 43 ∧ ¬ tk q = 45 := ⟨fun e => absurd (e ▸ c0) (by decide), fun e => absurd (e ▸ c0) (by decide)⟩
      rw [if_neg (by rw [nIe (by omega) (by decide)]; exact e1.1), r_kind X (by omega) hq, cI_some, if_neg (by rw [nIe (by omega) (by decide)]; exact e1.2), ckm1]
      exact Or.inl ⟨n, k, m, v, q, g, rfl, ⟨hq, hn⟩, ⟨hg1, hg2⟩, GXa, LV, (fun z => by unfold ariT at z; unfold tl0 at htl; omega)⟩
    · have ek : tk q = 43 ∨ tk q = 45 := by
        unfold opT at c0
        rw [if_neg (by decide), if_pos rfl] at c0
        by_cases e1 : tk q = 43
        · exact Or.inl e1
        · rw [if_neg e1] at c0
          by_cases e2 : tk q = 45
          · exact Or.inr e2
          · rw [if_neg e2] at c0
            exact absurd rfl c0
      have hlt := lt_T X hq (by omega)
      have key : (if nI (tk q) = 43 then G_X4_sum_19 D (nI o) 1 (nI i) o4 (RD h (fset f q (cl + n)) g) else cI (F_X4_kind D (RD h (fset f q (cl + n)) g)) (fun x6 h5 => (if x6 = 45 then G_X4_sum_19 D (nI o) 1 (nI i) o4 h5 else ck (mrt 1 1) (some (Value.int 1, h5))))) = G_X4_sum_26 D (nI o) 1 (nI i) o4 (nI (bC (opT 1 (tk q)))) (RD h (fset f q (cl + n)) g) := by
        rcases ek with e1 | e1
        · rw [if_pos (by rw [e1]; rfl), S_X4_sum_19 (lay_RD X.1 _ _), r_kind X (by omega) hq, cI_some, if_pos (by rw [e1]; rfl), e1]
          rfl
        · rw [if_neg (by rw [e1]; decide), r_kind X (by omega) hq, cI_some, if_pos (by rw [e1]; rfl), S_X4_sum_19 (lay_RD X.1 _ _), r_kind X (by omega) hq, cI_some, if_neg (by rw [e1]; decide), e1]
          rfl
      rw [key, S_X4_sum_26 (lay_RD X.1 _ _), r_adv X (by omega) hlt, cV_some]
      have ho9 : 6 ≤ opT 1 (tk q) ∧ opT 1 (tk q) ≤ 9 := by rcases ek with e1 | e1 <;> rw [e1] <;> decide
      have hb := bC_bd (op := opT 1 (tk q)) (by omega)
      rcases P1 D (q + 1) (cl + n) g (by omega) (by omega) (by omega) with ⟨n2, k2, m2, v2, q2, g2, e2, ⟨b1, b2⟩, ⟨b3, b4⟩, b5, b6, b7⟩ | ⟨fl, q2, c2, g2, e2, ⟨b1, b2, b3, b4⟩, b5⟩
      · rw [e2, cI_some, r_emit X (by omega) (c := cl + n + n2) (by omega) g2 (enc0 (by omega)), cI_some, nI_1, show cl + n + n2 + 1 = cl + (n + n2 + 1) by omega]
        exact ih D p0 cl g0 (i + 1) _ (n + n2 + 1) (sq2 n k n2 k2 (bC (opT 1 (tk q)))) (m ++ m2 ++ [(opT 1 (tk q), 0)]) _ q2 _ (by omega) hD b1 (by omega) hcl (by omega) (sq2_lo hg1 b3) (sq2_hi hg2 b3 b4) (GX_ari GXa b5 ho9) (lev1_go LV rfl c0 b6) b7
      · obtain ⟨z, c', g', e3, hc'⟩ := r_emitF (X_flt X (nI fl) (nI (ts q2))) (D := D) (by omega) (p := q2) b2 g2 (nI (bC (opT 1 (tk q)))) 0
        rw [e2, cI_some, e3, cI_some, S_X4_sum_6 (lay_RD X.1 _ _), if_pos (show (0 : Int32) = 0 from rfl), ckm0, ite_self]
        exact Or.inr ⟨fl, q2, c', g', rfl, ⟨b1, hc', b3, b4⟩, lev1_no2 LV rfl c0 b5⟩
theorem x_sum {h : MH} {tk : Nat → Nat} {ts : Nat → Nat} {tv : Nat → Nat} {T : Nat} {f : Nat → Int32} {sl : Bool} (X : RDX h tk ts tv T f sl) {o : Nat} (ho : o ≤ 8) (P1 : PLV h tk ts tv T f sl F_X4_product 4 2 6 False A0 false tl0 o) : PLV h tk ts tv T f sl F_X4_sum 5 3 5 False A1 false tl1 o := by
  intro D p cl g hD hp hcl
  obtain ⟨d, rfl⟩ : ∃ d, D = d + 1 := ⟨D - 1, by omega⟩
  rw [S_X4_sum (lay_RD X.1 _ _)]
  rcases P1 d p cl g (by omega) hp hcl with ⟨n2, k2, m2, v2, q2, g2, e2, ⟨b1, b2⟩, ⟨b3, b4⟩, b5, b6, b7⟩ | ⟨fl, q2, c2, g2, e2, ⟨b1, b2, b3, b4⟩, b5⟩
  · rw [e2, cI_some]
    have := b5.2.1
    exact x_sumL X ho P1 (T - q2 + 1) d p cl g 0 none n2 k2 m2 v2 q2 g2 (by omega) (by omega) b1 b2 hcl (by omega) b3 b4 (GX_mono b5 (by omega)) (lev1_lev b6) b7
  · rw [e2, cI_some, S_X4_sum_6 (lay_RD X.1 _ _), if_pos (show (0 : Int32) = 0 from rfl), ckm0, ite_self]
    exact Or.inr ⟨fl, q2, c2, g2, rfl, ⟨b1, b2, b3, b4⟩, lev1_no b5⟩
theorem x_bothL {h : MH} {tk : Nat → Nat} {ts : Nat → Nat} {tv : Nat → Nat} {T : Nat} {f : Nat → Int32} {sl : Bool} (X : RDX h tk ts tv T f sl) {o : Nat} (ho : o ≤ 8) (P1 : PLV h tk ts tv T f sl F_X4_ask 6 4 3 True A8 true tl1 o) : ∀ (r D p0 cl : Nat) (g0 : Nat → Int32) (i : Nat) (n : Nat) (k : Nat → Nat → Nat) (m : List (Nat × Nat)) (v : Den) (q : Nat) (g : Nat → Int32), T - q < r → 7 * (8 - o) + 6 ≤ D → q ≤ T → p0 + n ≤ q → cl ≤ p0 → i + 1 ≤ q → (∀ j, j < cl → g j = g0 j) → (∀ j, j < n → g (cl + j) = nI (k cl j)) → GX true (NN sl) (5 * (8 - o) + 5) n k m v → LEV tk tv sl 2 True (A2 o) o p0 m q → tl1 (tk q) → CR h ts T f p0 cl g0 (fun n k m v q => GX true (NN sl) (5 * (8 - o) + 5) n k m v ∧ LEV tk tv sl 2 True (A2 o) o p0 m q ∧ tl2 (tk q)) (fun fl q => NOO tk tv sl (A2 o) o p0 fl q) (G_X4_both_6 D (nI o) 1 (nI i) (RD h (fset f q (cl + n)) g)) := by
  intro r
  induction r with
  | zero => intro D p0 cl g0 i n k m v q g hr; omega
  | succ r ih =>
    intro D p0 cl g0 i n k m v q g hr hD hq hn hcl hi hg1 hg2 GXa LV htl
    have hT := X.2.1.1.1
    have htk := (X.2.1.2.1 q hq).2.2.2.1
    rw [S_X4_both_6 (lay_RD X.1 _ _), if_pos (by rw [nIl (by omega) (by decide)]; show i < 300; omega), if_neg (by decide), r_kind X (by omega) hq, cI_some]
    by_cases c0 : tk q = 322
    · have hlt := lt_T X hq (by omega)
      rw [if_pos (by rw [c0]; rfl), r_adv X (by omega) hlt, cV_some]
      rcases P1 D (q + 1) (cl + n) g (by omega) (by omega) (by omega) with ⟨n2, k2, m2, v2, q2, g2, e2, ⟨b1, b2⟩, ⟨b3, b4⟩, b5, b6, b7⟩ | ⟨fl, q2, c2, g2, e2, ⟨b1, b2, b3, b4⟩, b5⟩
      · rw [e2, cI_some, r_emit X (by omega) (c := cl + n + n2) (by omega) g2 (show ((0 : Int32) <<< (5 &&& 31)) ||| 19 = nI (bC 21) from enc0 (op := bC 21) (by decide)), cI_some, nI_1, show cl + n + n2 + 1 = cl + (n + n2 + 1) by omega]
        exact ih D p0 cl g0 (i + 1) (n + n2 + 1) (sq2 n k n2 k2 (bC 21)) (m ++ m2 ++ [(21, 0)]) _ q2 _ (by omega) hD b1 (by omega) hcl (by omega) (sq2_lo hg1 b3) (sq2_hi hg2 b3 b4) (GX_join GXa b5 (by decide)) (lev2_go LV c0 b6) b7
      · obtain ⟨z, c', g', e3, hc'⟩ := r_emitF (X_flt X (nI fl) (nI (ts q2))) (D := D) (by omega) (p := q2) b2 g2 19 0
        rw [e2, cI_some, e3, cI_some, S_X4_both_6 (lay_RD X.1 _ _), if_pos (show (0 : Int32) = 0 from rfl), ckm0, ite_self]
        exact Or.inr ⟨fl, q2, c', g', rfl, ⟨b1, hc', b3, b4⟩, lev2_no2 LV c0 b5⟩
    · rw [if_neg (by rw [nIe (by omega) (by decide)]; exact c0), ckm1]
      exact Or.inl ⟨n, k, m, v, q, g, rfl, ⟨hq, hn⟩, ⟨hg1, hg2⟩, GXa, LV, ⟨htl, c0⟩⟩
theorem x_both {h : MH} {tk : Nat → Nat} {ts : Nat → Nat} {tv : Nat → Nat} {T : Nat} {f : Nat → Int32} {sl : Bool} (X : RDX h tk ts tv T f sl) {o : Nat} (ho : o ≤ 8) (P1 : PLV h tk ts tv T f sl F_X4_ask 6 4 3 True A8 true tl1 o) : PLV h tk ts tv T f sl F_X4_both 7 5 2 True A2 true tl2 o := by
  intro D p cl g hD hp hcl
  obtain ⟨d, rfl⟩ : ∃ d, D = d + 1 := ⟨D - 1, by omega⟩
  rw [S_X4_both (lay_RD X.1 _ _)]
  rcases P1 d p cl g (by omega) hp hcl with ⟨n2, k2, m2, v2, q2, g2, e2, ⟨b1, b2⟩, ⟨b3, b4⟩, b5, b6, b7⟩ | ⟨fl, q2, c2, g2, e2, ⟨b1, b2, b3, b4⟩, b5⟩
  · rw [e2, cI_some]
    have := b5.2.1
    exact x_bothL X ho P1 (T - q2 + 1) d p cl g 0 n2 k2 m2 v2 q2 g2 (by omega) (by omega) b1 b2 hcl (by omega) b3 b4 (GX_mono b5 (by omega)) (lev2_lev b6) b7
  · rw [e2, cI_some, S_X4_both_6 (lay_RD X.1 _ _), if_pos (show (0 : Int32) = 0 from rfl), ckm0, ite_self]
    exact Or.inr ⟨fl, q2, c2, g2, rfl, ⟨b1, b2, b3, b4⟩, lev2_no b5⟩
theorem x_eitherL {h : MH} {tk : Nat → Nat} {ts : Nat → Nat} {tv : Nat → Nat} {T : Nat} {f : Nat → Int32} {sl : Bool} (X : RDX h tk ts tv T f sl) {o : Nat} (ho : o ≤ 8) (P1 : PLV h tk ts tv T f sl F_X4_both 7 5 2 True A2 true tl2 o) : ∀ (r D p0 cl : Nat) (g0 : Nat → Int32) (i : Nat) (n : Nat) (k : Nat → Nat → Nat) (m : List (Nat × Nat)) (v : Den) (q : Nat) (g : Nat → Int32), T - q < r → 7 * (8 - o) + 7 ≤ D → q ≤ T → p0 + n ≤ q → cl ≤ p0 → i + 1 ≤ q → (∀ j, j < cl → g j = g0 j) → (∀ j, j < n → g (cl + j) = nI (k cl j)) → GX true (NN sl) (5 * (8 - o) + 6) n k m v → LEV tk tv sl 1 True (A3 o) o p0 m q → tl2 (tk q) → CR h ts T f p0 cl g0 (fun n k m v q => GX true (NN sl) (5 * (8 - o) + 6) n k m v ∧ LEV tk tv sl 1 True (A3 o) o p0 m q ∧ tl3 (tk q)) (fun fl q => NOO tk tv sl (A3 o) o p0 fl q) (G_X4_either_6 D (nI o) 1 (nI i) (RD h (fset f q (cl + n)) g)) := by
  intro r
  induction r with
  | zero => intro D p0 cl g0 i n k m v q g hr; omega
  | succ r ih =>
    intro D p0 cl g0 i n k m v q g hr hD hq hn hcl hi hg1 hg2 GXa LV htl
    have hT := X.2.1.1.1
    have htk := (X.2.1.2.1 q hq).2.2.2.1
    rw [S_X4_either_6 (lay_RD X.1 _ _), if_pos (by rw [nIl (by omega) (by decide)]; show i < 300; omega), if_neg (by decide), r_kind X (by omega) hq, cI_some]
    by_cases c0 : tk q = 321
    · have hlt := lt_T X hq (by omega)
      rw [if_pos (by rw [c0]; rfl), r_adv X (by omega) hlt, cV_some]
      rcases P1 D (q + 1) (cl + n) g (by omega) (by omega) (by omega) with ⟨n2, k2, m2, v2, q2, g2, e2, ⟨b1, b2⟩, ⟨b3, b4⟩, b5, b6, b7⟩ | ⟨fl, q2, c2, g2, e2, ⟨b1, b2, b3, b4⟩, b5⟩
      · rw [e2, cI_some, r_emit X (by omega) (c := cl + n + n2) (by omega) g2 (show ((0 : Int32) <<< (5 &&& 31)) ||| 18 = nI (bC 22) from enc0 (op := bC 22) (by decide)), cI_some, nI_1, show cl + n + n2 + 1 = cl + (n + n2 + 1) by omega]
        exact ih D p0 cl g0 (i + 1) (n + n2 + 1) (sq2 n k n2 k2 (bC 22)) (m ++ m2 ++ [(22, 0)]) _ q2 _ (by omega) hD b1 (by omega) hcl (by omega) (sq2_lo hg1 b3) (sq2_hi hg2 b3 b4) (GX_join GXa b5 (by decide)) (lev3_go LV c0 b6) b7
      · obtain ⟨z, c', g', e3, hc'⟩ := r_emitF (X_flt X (nI fl) (nI (ts q2))) (D := D) (by omega) (p := q2) b2 g2 18 0
        rw [e2, cI_some, e3, cI_some, S_X4_either_6 (lay_RD X.1 _ _), if_pos (show (0 : Int32) = 0 from rfl), ckm0, ite_self]
        exact Or.inr ⟨fl, q2, c', g', rfl, ⟨b1, hc', b3, b4⟩, lev3_no2 LV c0 b5⟩
    · rw [if_neg (by rw [nIe (by omega) (by decide)]; exact c0), ckm1]
      exact Or.inl ⟨n, k, m, v, q, g, rfl, ⟨hq, hn⟩, ⟨hg1, hg2⟩, GXa, LV, ⟨htl.1, htl.2, c0⟩⟩
theorem x_either {h : MH} {tk : Nat → Nat} {ts : Nat → Nat} {tv : Nat → Nat} {T : Nat} {f : Nat → Int32} {sl : Bool} (X : RDX h tk ts tv T f sl) {o : Nat} (ho : o ≤ 8) (P1 : PLV h tk ts tv T f sl F_X4_both 7 5 2 True A2 true tl2 o) : PLV h tk ts tv T f sl F_X4_either 8 6 1 True A3 true tl3 o := by
  intro D p cl g hD hp hcl
  obtain ⟨d, rfl⟩ : ∃ d, D = d + 1 := ⟨D - 1, by omega⟩
  rw [S_X4_either (lay_RD X.1 _ _)]
  rcases P1 d p cl g (by omega) hp hcl with ⟨n2, k2, m2, v2, q2, g2, e2, ⟨b1, b2⟩, ⟨b3, b4⟩, b5, b6, b7⟩ | ⟨fl, q2, c2, g2, e2, ⟨b1, b2, b3, b4⟩, b5⟩
  · rw [e2, cI_some]
    have := b5.2.1
    exact x_eitherL X ho P1 (T - q2 + 1) d p cl g 0 n2 k2 m2 v2 q2 g2 (by omega) (by omega) b1 b2 hcl (by omega) b3 b4 (GX_mono b5 (by omega)) (lev3_lev b6) b7
  · rw [e2, cI_some, S_X4_either_6 (lay_RD X.1 _ _), if_pos (show (0 : Int32) = 0 from rfl), ckm0, ite_self]
    exact Or.inr ⟨fl, q2, c2, g2, rfl, ⟨b1, b2, b3, b4⟩, lev3_no b5⟩
end RDL
