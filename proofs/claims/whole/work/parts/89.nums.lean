--deps:19.lay 21.facts 22.00.names 22.01.eq 22.02.eq 22.03.eq 22.04.eq 22.05.eq 22.06.eq 22.07.eq 22.08.eq 22.09.eq 22.10.eq 22.11.eq 22.12.eq 22.13.eq 22.14.eq 22.15.eq 22.16.eq 22.17.eq 22.18.eq 22.19.eq 22.20.eq 22.21.eq 22.22.eq 22.23.eq 23.num 24.town 25.evc 26.evm 27.law 28.says 29.inv 66.script 71.yard 72.yard2 73.gx 74.gx2 75.gx3 76.reader 77.read2 78.read3
/-! THE CLASS READS A CLAUSE OF NUMBERS -/
set_option linter.unusedSectionVars false
def rgL (K : Nat) : Nat := if K = 2 ∨ K = 6 ∨ K = 7 then 1 else 0
def rgH (K : Nat) : Nat := if K = 2 ∨ K = 6 then 9 else if K = 7 then 60 else 3
def BNO (tk tv : Nat → Nat) (K p q F S : Nat) : Prop := (tk p = 258 ∧ tv p = F ∧ rgL K ≤ F ∧ F ≤ rgH K) ∧ ((K = 2 ∨ K = 3 ∨ K = 6) ∧ tk (p + 1) = 314 ∧ tk (p + 2) = 258 ∧ tv (p + 2) = S ∧ S ≤ 8 ∧ q = p + 3 ∨ (K = 4 ∨ K = 5 ∨ K = 7) ∧ q = p + 1 ∧ S = 0)
def BNN (tk tv : Nat → Nat) (K p f q : Nat) : Prop := (¬ tk p = 258 ∧ f = 1 ∧ q = p) ∨ (tk p = 258 ∧ ¬ (rgL K ≤ tv p ∧ tv p ≤ rgH K) ∧ f = 2 ∧ q = p) ∨ ((tk p = 258 ∧ rgL K ≤ tv p ∧ tv p ≤ rgH K) ∧ (K = 2 ∨ K = 3 ∨ K = 6) ∧ (¬ tk (p + 1) = 314 ∧ f = 1 ∧ q = p + 1 ∨ tk (p + 1) = 314 ∧ (¬ tk (p + 2) = 258 ∧ f = 1 ∧ q = p + 2 ∨ tk (p + 2) = 258 ∧ ¬ tv (p + 2) ≤ 8 ∧ f = 2 ∧ q = p + 2)))
/-- only the n-th elements of firsts and seconds differ -/
def W2 (h h' : MH) (n : Nat) : Prop := h'.1 = h.1 ∧ (∀ a, gR h' a = gR h a) ∧ (∀ a, ¬ a = 57 → ¬ a = 58 → gI h' a = gI h a) ∧ (∀ a j, ¬ j = n → gI h' a j = gI h a j)
theorem W2_refl (h : MH) (n : Nat) : W2 h h n := ⟨rfl, fun _ => rfl, fun _ _ _ => rfl, fun _ _ _ => rfl⟩
theorem W2_tr {h h1 h2 : MH} {n : Nat} (u : W2 h h1 n) (v : W2 h1 h2 n) : W2 h h2 n := ⟨v.1.trans u.1, fun a => (v.2.1 a).trans (u.2.1 a), fun a x y => (v.2.2.1 a x y).trans (u.2.2.1 a x y), fun a j x => (v.2.2.2 a j x).trans (u.2.2.2 a j x)⟩
theorem gI_sIe (h : MH) (a k : Nat) (v : Int32) (b : Nat) : gI (sI h a k v) b = if b = a then va_up (gI h a) k v else gI h b := by
  rw [sI_def, gI_rI]
theorem W2_sI (h : MH) {a n : Nat} (ha : a = 57 ∨ a = 58) (v : Int32) : W2 h (sI h a n v) n := by
  refine ⟨rfl, fun _ => rfl, fun b h1 h2 => ?_, fun b j hj => ?_⟩
  · rw [gI_sIe, if_neg (by omega)]
  · rw [gI_sIe]
    by_cases c : b = a
    · rw [if_pos c, va_ne _ _ hj, c]
    · rw [if_neg c]
theorem sI_RDo (h : MH) (f g : Nat → Int32) {a : Nat} (h1 : ¬ a = 55) (h2 : ¬ a = 59) (k : Nat) (v : Int32) : sI (RD h f g) a k v = RD (sI h a k v) f g := by
  rw [sI_def, gI_RDo _ _ _ h1 h2, sI_def]
  unfold RD
  rw [rI_swap _ g _ (fun z => h2 z.symm), rI_swap _ f _ (fun z => h1 z.symm)]
theorem X_W2 {h h' : MH} {tk ts tv : Nat → Nat} {T n : Nat} {f : Nat → Int32} {sl : Bool} (X : RDX h tk ts tv T f sl) (w : W2 h h' n) (L : lay h') : RDX h' tk ts tv T f sl := by
  refine ⟨L, ?_, X.2.2⟩
  unfold TPE
  rw [w.2.2.1 50 (by decide) (by decide), w.2.2.1 52 (by decide) (by decide), w.2.2.1 53 (by decide) (by decide), w.2.2.1 54 (by decide) (by decide)]
  exact X.2.1
theorem kd57 {h : MH} (L : lay h) {a : Nat} (ha : a = 57 ∨ a = 58) : kd h a = 20 ∧ ln h a = 24 := by
  rcases ha with rfl | rfl
  · exact ⟨L.2.1 57 (by decide), L.2.2.1 57 (by decide) (by decide)⟩
  · exact ⟨L.2.1 58 (by decide), L.2.2.1 58 (by decide) (by decide)⟩
section NUM
theorem r_numO {h : MH} {tk : Nat → Nat} {ts : Nat → Nat} {tv : Nat → Nat} {T : Nat} {f : Nat → Int32} {sl : Bool} (X : RDX h tk ts tv T f sl) {D p c n lo hi a : Nat} (hD : 2 ≤ D) (ha : a = 57 ∨ a = 58) (hp : p ≤ T) (hn : n < 24) (e6 : f 6 = nI n) (h2 : hi < 1000) (ht : tk p = 258) (hr : lo ≤ tv p ∧ tv p ≤ hi) (g : Nat → Int32) : F_X4_number D a (nI lo) (nI hi) (RD h (fset f p c) g) = some (.int 1, RD (sI h a n (nI (tv p))) (fset f (p + 1) c) g) := by
  obtain ⟨d, rfl⟩ : ∃ d, D = d + 2 := ⟨D - 2, by omega⟩
  have hT := X.2.1.1.1
  have LR := lay_RD X.1 (fset f p c) g
  have hv := (X.2.1.2.1 p hp).2.2.2.2.1
  have ev := (X.2.1.2.1 p hp).2.2.1
  have hlt := lt_T X hp (by omega)
  obtain ⟨k1, k2⟩ := kd57 X.1 ha
  have L' : lay (sI h a n (nI (tv p))) := lay_rI X.1 (by omega)
  have X' := X_W2 X (W2_sI h ha (nI (tv p)) (n := n)) L'
  rw [S_X4_number LR, r_kind X (by omega) hp, cI_some, if_pos (by rw [ht]; rfl), gI_RD55, fset_5, ck_pos ((ib_nIi (by omega)).mpr (by omega)), ix_nI (by omega), gI_RDo _ _ _ (by decide) (by decide), ev, S_X10_within LR, if_neg (by rw [nI_ltI (by omega) (by omega)]; omega), if_pos (by rw [nI_leI (by omega) (by omega)]; omega), cI_some, if_neg (by decide), gI_RD55, fset_5, ck_pos ((ib_nIi (by omega)).mpr (by omega)), fset_6, e6, ck_pos (show kd (RD h (fset f p c) g) a = 20 ∧ ib (nI n) (ln (RD h (fset f p c) g) a) from ⟨k1, by show ib (nI n) (ln h a); rw [k2]; exact (ib_nIi (by omega)).mpr hn⟩), ix_nI (by omega), ix_nI (by omega), gI_RDo _ _ _ (by decide) (by decide), ev, sI_RDo _ _ _ (by omega) (by omega), lt_def, r_adv X' (by omega) hlt, cV_some]
theorem r_numB {h : MH} {tk : Nat → Nat} {ts : Nat → Nat} {tv : Nat → Nat} {T : Nat} {f : Nat → Int32} {sl : Bool} (X : RDX h tk ts tv T f sl) {D p c lo hi a : Nat} (hD : 2 ≤ D) (hp : p ≤ T) (ht : ¬ tk p = 258) (g : Nat → Int32) : F_X4_number D a (nI lo) (nI hi) (RD h (fset f p c) g) = some (.int 0, RD h (fset (flt f (nI 1) (nI (ts p))) p c) g) := by
  obtain ⟨d, rfl⟩ : ∃ d, D = d + 1 := ⟨D - 1, by omega⟩
  have htk := (X.2.1.2.1 p hp).2.2.2.1
  rw [S_X4_number (lay_RD X.1 _ _), r_kind X (by omega) hp, cI_some, if_neg (by rw [nIe (by omega) (by decide)]; exact ht), r_ref X (by omega) hp, cI_some, ckm0]
  rfl
theorem r_numR {h : MH} {tk : Nat → Nat} {ts : Nat → Nat} {tv : Nat → Nat} {T : Nat} {f : Nat → Int32} {sl : Bool} (X : RDX h tk ts tv T f sl) {D p c lo hi a : Nat} (hD : 2 ≤ D) (hp : p ≤ T) (h1 : lo < 1000) (h2 : hi < 1000) (ht : tk p = 258) (hr : ¬ (lo ≤ tv p ∧ tv p ≤ hi)) (g : Nat → Int32) : F_X4_number D a (nI lo) (nI hi) (RD h (fset f p c) g) = some (.int 0, RD h (fset (flt f (nI 2) (nI (ts p))) p c) g) := by
  obtain ⟨d, rfl⟩ : ∃ d, D = d + 2 := ⟨D - 2, by omega⟩
  have hT := X.2.1.1.1
  have LR := lay_RD X.1 (fset f p c) g
  have hv := (X.2.1.2.1 p hp).2.2.2.2.1
  have ev := (X.2.1.2.1 p hp).2.2.1
  have ew : (if nI (tv p) < nI lo then some (Value.int 0, RD h (fset f p c) g) else if nI (tv p) ≤ nI hi then some (Value.int 1, RD h (fset f p c) g) else some (Value.int 0, RD h (fset f p c) g)) = some (Value.int 0, RD h (fset f p c) g) := by
    by_cases q : tv p < lo
    · rw [if_pos (by rw [nI_ltI (by omega) (by omega)]; exact q)]
    · rw [if_neg (by rw [nI_ltI (by omega) (by omega)]; exact q), if_neg (by rw [nI_leI (by omega) (by omega)]; omega)]
  rw [S_X4_number LR, r_kind X (by omega) hp, cI_some, if_pos (by rw [ht]; rfl), gI_RD55, fset_5, ck_pos ((ib_nIi (by omega)).mpr (by omega)), ix_nI (by omega), gI_RDo _ _ _ (by decide) (by decide), ev, S_X10_within LR, ew, cI_some, if_pos rfl, r_ref X (by omega) hp, cI_some, ckm0]
  rfl
/-- at NUMBER -/
theorem r_plc {h : MH} {tk : Nat → Nat} {ts : Nat → Nat} {tv : Nat → Nat} {T : Nat} {f : Nat → Int32} {sl : Bool} (X : RDX h tk ts tv T f sl) {D p c n : Nat} (hD : 4 ≤ D) (hp : p ≤ T) (hn : n < 24) (e6 : f 6 = nI n) (g : Nat → Int32) : (∃ S, (tk p = 314 ∧ tk (p + 1) = 258 ∧ tv (p + 1) = S ∧ S ≤ 8) ∧ p + 2 ≤ T ∧ F_X4_placed D (RD h (fset f p c) g) = some (.int 1, RD (sI h 58 n (nI S)) (fset f (p + 2) c) g)) ∨ (∃ fl q, ((¬ tk p = 314 ∧ fl = 1 ∧ q = p) ∨ (tk p = 314 ∧ (¬ tk (p + 1) = 258 ∧ fl = 1 ∧ q = p + 1 ∨ tk (p + 1) = 258 ∧ ¬ tv (p + 1) ≤ 8 ∧ fl = 2 ∧ q = p + 1))) ∧ q ≤ T ∧ F_X4_placed D (RD h (fset f p c) g) = some (.int 0, RD h (fset (flt f (nI fl) (nI (ts q))) q c) g)) := by
  obtain ⟨d, rfl⟩ : ∃ d, D = d + 1 := ⟨D - 1, by omega⟩
  rw [S_X4_placed (lay_RD X.1 _ _)]
  by_cases c1 : tk p = 314
  · have hlt := lt_T X hp (by omega)
    rw [show F_X4_expect d 314 (RD h (fset f p c) g) = _ from r_expY X (D := d) (by omega) (t := 314) hp (by omega) (by omega) c1 c g, cI_some, if_neg (by decide)]
    by_cases c2 : tk (p + 1) = 258
    · have hlt2 := lt_T X (p := p + 1) (by omega) (by omega)
      by_cases c3 : tv (p + 1) ≤ 8
      · refine Or.inl ⟨tv (p + 1), ⟨c1, c2, rfl, c3⟩, by omega, ?_⟩
        rw [show F_X4_number d 58 0 8 (RD h (fset f (p + 1) c) g) = _ from r_numO X (D := d) (by omega) (lo := 0) (hi := 8) (Or.inr rfl) (by omega) hn e6 (by omega) c2 ⟨by omega, c3⟩ g, cI_some, if_neg (by decide)]
      · refine Or.inr ⟨2, p + 1, Or.inr ⟨c1, Or.inr ⟨c2, c3, rfl, rfl⟩⟩, by omega, ?_⟩
        rw [show F_X4_number d 58 0 8 (RD h (fset f (p + 1) c) g) = _ from r_numR X (D := d) (by omega) (lo := 0) (hi := 8) (a := 58) (by omega) (by omega) (by omega) c2 (by omega) g, cI_some, if_pos rfl]
    · refine Or.inr ⟨1, p + 1, Or.inr ⟨c1, Or.inl ⟨c2, rfl, rfl⟩⟩, by omega, ?_⟩
      rw [show F_X4_number d 58 0 8 (RD h (fset f (p + 1) c) g) = _ from r_numB X (D := d) (by omega) (lo := 0) (hi := 8) (a := 58) (by omega) c2 g, cI_some, if_pos rfl]
  · refine Or.inr ⟨1, p, Or.inl ⟨c1, rfl, rfl⟩, hp, ?_⟩
    rw [show F_X4_expect d 314 (RD h (fset f p c) g) = _ from r_expN X (D := d) (by omega) (t := 314) hp (by omega) c1 c g, cI_some, if_pos rfl]
    rfl
theorem r_nums {h : MH} {tk : Nat → Nat} {ts : Nat → Nat} {tv : Nat → Nat} {T : Nat} {f : Nat → Int32} {sl : Bool} (X : RDX h tk ts tv T f sl) {D p c n K : Nat} (hD : 6 ≤ D) (hp : p ≤ T) (hn : n < 24) (e6 : f 6 = nI n) (hK : 2 ≤ K ∧ K ≤ 7) (g : Nat → Int32) (h58 : gI h 58 n = 0) : (∃ q F S h', BNO tk tv K p q F S ∧ q ≤ T ∧ F_X4_numbers D (nI (300 + K)) (RD h (fset f p c) g) = some (.int 1, RD h' (fset f q c) g) ∧ W2 h h' n ∧ gI h' 57 n = nI F ∧ gI h' 58 n = nI S) ∨ (∃ fl q h', BNN tk tv K p fl q ∧ (q ≤ T ∧ 1 ≤ fl ∧ fl ≤ 6) ∧ F_X4_numbers D (nI (300 + K)) (RD h (fset f p c) g) = some (.int 0, RD h' (fset (flt f (nI fl) (nI (ts q))) q c) g) ∧ W2 h h' n) := by
  obtain ⟨d, rfl⟩ : ∃ d, D = d + 1 := ⟨D - 1, by omega⟩
  have hrH : rgL K < 1000 ∧ rgH K < 1000 := by unfold rgL rgH; constructor <;> (repeat (first | omega | split))
  -- a number and a place
  have two : (K = 2 ∨ K = 3 ∨ K = 6) → F_X4_numbers (d + 1) (nI (300 + K)) (RD h (fset f p c) g) = cI (F_X4_number d 57 (nI (rgL K)) (nI (rgH K)) (RD h (fset f p c) g)) (fun x2 h1 => (if x2 = 0 then some (.int 0, h1) else cI (F_X4_placed d h1) (fun x4 h3 => (if x4 = 0 then some (.int 0, h3) else some (.int 1, h3))))) := by
    rintro (rfl | rfl | rfl) <;> rw [S_X4_numbers (lay_RD X.1 _ _)]
    · rw [if_pos (by decide)]; rfl
    · rw [if_neg (by decide), if_pos (by decide)]; rfl
    · rw [if_neg (by decide), if_neg (by decide), if_neg (by decide), if_neg (by decide), if_pos (by decide)]; rfl
  have one : (K = 4 ∨ K = 5 ∨ K = 7) → F_X4_numbers (d + 1) (nI (300 + K)) (RD h (fset f p c) g) = cI (F_X4_number d 57 (nI (rgL K)) (nI (rgH K)) (RD h (fset f p c) g)) (fun x10 h9 => ck (mrt 1 x10) (some (.int x10, h9))) := by
    rintro (rfl | rfl | rfl) <;> rw [S_X4_numbers (lay_RD X.1 _ _)]
    · rw [if_neg (by decide), if_neg (by decide), if_pos (by decide)]; rfl
    · rw [if_neg (by decide), if_neg (by decide), if_neg (by decide), if_pos (by decide)]; rfl
    · rw [if_neg (by decide), if_neg (by decide), if_neg (by decide), if_neg (by decide), if_neg (by decide), if_pos (by decide)]; rfl
  have kk : (K = 2 ∨ K = 3 ∨ K = 6) ∨ (K = 4 ∨ K = 5 ∨ K = 7) := by omega
  by_cases c1 : tk p = 258
  rotate_left
  · refine Or.inr ⟨1, p, h, Or.inl ⟨c1, rfl, rfl⟩, ⟨hp, by omega, by omega⟩, ?_, W2_refl h n⟩
    rcases kk with k | k
    · rw [two k, r_numB X (by omega) hp c1, cI_some, if_pos rfl]
    · rw [one k, r_numB X (by omega) hp c1, cI_some, ckm0]
  have hlt := lt_T X hp (by omega)
  by_cases c2 : rgL K ≤ tv p ∧ tv p ≤ rgH K
  rotate_left
  · refine Or.inr ⟨2, p, h, Or.inr (Or.inl ⟨c1, c2, rfl, rfl⟩), ⟨hp, by omega, by omega⟩, ?_, W2_refl h n⟩
    rcases kk with k | k
    · rw [two k, r_numR X (by omega) hp hrH.1 hrH.2 c1 c2, cI_some, if_pos rfl]
    · rw [one k, r_numR X (by omega) hp hrH.1 hrH.2 c1 c2, cI_some, ckm0]
  have w1 := W2_sI h (a := 57) (n := n) (Or.inl rfl) (nI (tv p))
  have L1 : lay (sI h 57 n (nI (tv p))) := lay_rI X.1 (by decide)
  have X1 := X_W2 X w1 L1
  have g57 : gI (sI h 57 n (nI (tv p))) 57 n = nI (tv p) := by rw [gI_sIe, if_pos rfl, va_same]
  rcases kk with k | k
  · rw [two k, r_numO X (by omega) (Or.inl rfl) hp hn e6 hrH.2 c1 c2, cI_some, if_neg (by decide)]
    rcases r_plc X1 (D := d) (p := p + 1) (c := c) (by omega) (by omega) hn e6 g with ⟨S, ⟨s1, s2, s3, s4⟩, s5, s6⟩ | ⟨fl, q, s1, s2, s3⟩
    · refine Or.inl ⟨p + 3, tv p, S, sI (sI h 57 n (nI (tv p))) 58 n (nI S), ⟨⟨c1, rfl, c2.1, c2.2⟩, Or.inl ⟨k, s1, s2, s3, s4, rfl⟩⟩, by omega, ?_, W2_tr w1 (W2_sI _ (Or.inr rfl) _), ?_, ?_⟩
      · rw [s6, cI_some, if_neg (by decide)]
      · rw [gI_sIe, if_neg (by decide)]; exact g57
      · rw [gI_sIe, if_pos rfl, va_same]
    · refine Or.inr ⟨fl, q, _, Or.inr (Or.inr ⟨⟨c1, c2⟩, k, s1⟩), ⟨s2, ?_, ?_⟩, by rw [s3, cI_some, if_pos rfl], w1⟩
      · omega
      · omega
  · rw [one k, r_numO X (by omega) (Or.inl rfl) hp hn e6 hrH.2 c1 c2, cI_some, ckm1]
    refine Or.inl ⟨p + 1, tv p, 0, _, ⟨⟨c1, rfl, c2.1, c2.2⟩, Or.inr ⟨k, rfl, rfl⟩⟩, by omega, rfl, w1, g57, ?_⟩
    rw [gI_sIe, if_neg (by decide)]
    exact h58
end NUM
