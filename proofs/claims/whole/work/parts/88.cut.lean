--deps:19.lay 21.facts 22.00.names 22.01.eq 22.02.eq 22.03.eq 22.04.eq 22.05.eq 22.06.eq 22.07.eq 22.08.eq 22.09.eq 22.10.eq 22.11.eq 22.12.eq 22.13.eq 22.14.eq 22.15.eq 22.16.eq 22.17.eq 22.18.eq 22.19.eq 22.20.eq 22.21.eq 22.22.eq 22.23.eq 23.num 24.town 25.evc 26.evm 27.law 28.says 29.inv 71.yard 72.yard2 73.gx 74.gx2 75.gx3 76.reader 79.mtok 80.mpile 81.myard 82.msum 85.lexm 86.lexm2 87.lexc
/-! THE CLASS CUTS ITS TAPE -/
set_option linter.unusedSectionVars false
theorem run_ex {P : Nat → Prop} {by_ : Nat → Nat} {len : Nat} : ∀ (r s : Nat), s + r = len → 0 < r → P (by_ s) → ∃ e, RUNT P by_ len s e := by
  intro r
  induction r with
  | zero => intro s _ h; omega
  | succ r ih =>
    intro s hs _ hp
    rcases Nat.eq_zero_or_pos r with c | c
    · refine ⟨s + 1, by omega, by omega, fun j h1 h2 => ?_, fun z => by omega⟩
      rw [show j = s by omega]; exact hp
    · rcases Classical.em (P (by_ (s + 1))) with q | q
      · obtain ⟨e, e1, e2, e3, e4⟩ := ih (s + 1) (by omega) c q
        refine ⟨e, by omega, e2, fun j h1 h2 => ?_, e4⟩
        rcases Nat.lt_or_ge s j with z | z
        · exact e3 j z h2
        · rw [show j = s by omega]; exact hp
      · refine ⟨s + 1, by omega, by omega, fun j h1 h2 => ?_, fun _ => q⟩
        rw [show j = s by omega]; exact hp
theorem cNu_le (by_ : Nat → Nat) (s : Nat) : ∀ n, cNu by_ s n ≤ 10000 := by
  intro n
  cases n with
  | zero => exact Nat.zero_le _
  | succ n => rw [cNu]; omega
section CUT
theorem c_add {h : MH} (L : lay h) {by_ : Nat → Nat} {len : Nat} (hl : len ≤ 300) (hb : ∀ j, j < 300 → gI h 51 j = nI (by_ j) ∧ by_ j < 256) {D n : Nat} (hD : 1 ≤ D) {c k s v : Nat → Int32} (e5 : c 5 = nI n) (hn : n ≤ 300) (x y z : Int32) : F_X7_add D x y z (TD h c k s v) = some (.int 0, TD h (va_up c 5 (nI (n + 1))) (va_up k n x) (va_up s n y) (va_up v n z)) := by
  obtain ⟨d, rfl⟩ : ∃ d, D = d + 1 := ⟨D - 1, by omega⟩
  rw [S_X7_add (lay_TD L _ _ _ _)]
  simp (disch := omega) only [gI_TD50, e5, nI_ltI, nI_leI, nI_eq, nIl, nIL, nIe, nIz, ib_nIi, ib_L, ix_L, ck_pos, if_pos, if_neg, lt_def, ck_true, true_and, and_true, true_or, or_true, ix_nI, nI_1, nIa, nIb, nI_add, cI_some, cR_some, cL_some, cV_some, if_true, if_false, Bool.false_eq_true, ne_eq, not_true_eq_false, not_false_eq_true, sI_TD52, sI_TD53, sI_TD54, sI_TD50]
theorem hbT {h : MH} (L : lay h) {by_ : Nat → Nat} {len : Nat} (hl : len ≤ 300) (hb : ∀ j, j < 300 → gI h 51 j = nI (by_ j) ∧ by_ j < 256) (c k s v : Nat → Int32) : ∀ j, j < 300 → gI (TD h c k s v) 51 j = nI (by_ j) ∧ by_ j < 256 := by
  intro j hj
  rw [gI_TDo _ _ _ _ _ (by decide) (by decide) (by decide) (by decide)]
  exact hb j hj
theorem c_cn6 {h : MH} (L : lay h) {by_ : Nat → Nat} {len : Nat} (hl : len ≤ 300) (hb : ∀ j, j < 300 → gI h 51 j = nI (by_ j) ∧ by_ j < 256) {D : Nat} (hD : 1 ≤ D) {c k sv v : Nat → Int32} (e1 : c 1 = nI len) {s e : Nat} (R : RUNT isD by_ len s e) : ∀ (r x : Nat), x + r = e → s ≤ x → G_X7_cutNumber_6 D (nI s) (nI (cNu by_ s (x - s))) (nI x) (nI x) (TD h c k sv v) = G_X7_cutNumber_35 D (nI s) (nI (cNu by_ s (e - s))) (nI e) (nI e) (TD h c k sv v) := by
  obtain ⟨R1, R2, R3, R4⟩ := R
  have LT := lay_TD L c k sv v
  intro r
  induction r with
  | zero =>
    intro x he hs
    have hx : x = e := by omega
    subst hx
    rw [S_X7_cutNumber_6 LT, gI_TD50, e1]
    by_cases q : x < len
    · obtain ⟨b1, b2⟩ := hbT L hl hb c k sv v x (by omega)
      rw [if_pos (by rw [nI_ltI (by omega) (by omega)]; exact q), ck_pos ((ib_nIi (by omega)).mpr (by omega)), ix_nI (by omega), b1, c_dig LT hD b2, cI_some, if_neg (R4 q), if_pos rfl]
    · rw [if_neg (by rw [nI_ltI (by omega) (by omega)]; exact q)]
  | succ r ih =>
    intro x he hs
    have hd := R3 x hs (by omega)
    obtain ⟨b1, b2⟩ := hbT L hl hb c k sv v x (by omega)
    have cl := cNu_le by_ s (x - s)
    have hv : jmin (nI (cNu by_ s (x - s)) * 10 + nI (by_ x) - 48) 10000 = nI (cNu by_ s (x + 1 - s)) := by
      have := hd.1
      rw [nIn, nI_add, sub48 (by show 48 ≤ cNu by_ s (x - s) * 10 + by_ x; omega), show (10000 : Int32) = nI 10000 from rfl, jmin_n (by show cNu by_ s (x - s) * 10 + by_ x - 48 < 2 ^ 31; omega) (by omega), show x + 1 - s = (x - s) + 1 by omega, cNu, show s + (x - s) = x by omega]
      congr 1
      show min (cNu by_ s (x - s) * 10 + by_ x - 48) 10000 = min (cNu by_ s (x - s) * 10 + (by_ x - 48)) 10000
      omega
    rw [S_X7_cutNumber_6 LT, gI_TD50, e1, if_pos (by rw [nI_ltI (by omega) (by omega)]; omega), ck_pos ((ib_nIi (by omega)).mpr (by omega)), ix_nI (by omega), b1, c_dig LT hD b2, cI_some, if_pos hd, if_neg (by decide), ck_pos ((ib_nIi (by omega)).mpr (by omega)), b1, hv, lt_def, nI_1, ih (x + 1) (by omega) (by omega)]
theorem c_cw4 {h : MH} (L : lay h) {by_ : Nat → Nat} {len : Nat} (hl : len ≤ 300) (hb : ∀ j, j < 300 → gI h 51 j = nI (by_ j) ∧ by_ j < 256) {D : Nat} (hD : 1 ≤ D) {c k sv v : Nat → Int32} (e1 : c 1 = nI len) {s e : Nat} (R : RUNT isL by_ len s e) : ∀ (r x : Nat), x + r = e → s ≤ x → G_X7_cutWord_4 D (nI s) (nI x) (nI x) (TD h c k sv v) = G_X7_cutWord_20 D (nI s) (nI e) (nI e) (TD h c k sv v) := by
  obtain ⟨R1, R2, R3, R4⟩ := R
  have LT := lay_TD L c k sv v
  intro r
  induction r with
  | zero =>
    intro x he hs
    have hx : x = e := by omega
    subst hx
    rw [S_X7_cutWord_4 LT, gI_TD50, e1]
    by_cases q : x < len
    · obtain ⟨b1, b2⟩ := hbT L hl hb c k sv v x (by omega)
      rw [if_pos (by rw [nI_ltI (by omega) (by omega)]; exact q), ck_pos ((ib_nIi (by omega)).mpr (by omega)), ix_nI (by omega), b1, c_ltr LT hD b2, cI_some, if_neg (R4 q), if_pos rfl]
    · rw [if_neg (by rw [nI_ltI (by omega) (by omega)]; exact q)]
  | succ r ih =>
    intro x he hs
    have hd := R3 x hs (by omega)
    obtain ⟨b1, b2⟩ := hbT L hl hb c k sv v x (by omega)
    rw [S_X7_cutWord_4 LT, gI_TD50, e1, if_pos (by rw [nI_ltI (by omega) (by omega)]; omega), ck_pos ((ib_nIi (by omega)).mpr (by omega)), ix_nI (by omega), b1, c_ltr LT hD b2, cI_some, if_pos hd, if_neg (by decide), nI_1, ih (x + 1) (by omega) (by omega)]
theorem c_one {h : MH} (L : lay h) {by_ : Nat → Nat} {len : Nat} (hl : len ≤ 300) (hb : ∀ j, j < 300 → gI h 51 j = nI (by_ j) ∧ by_ j < 256) {D n x : Nat} (hD : 12 ≤ D) {c k sv v : Nat → Int32} (e1 : c 1 = nI len) (e5 : c 5 = nI n) (hn : n ≤ 300) (hx : x < len) (hB : ¬ isB (by_ x)) : ∃ e k' v', F_X7_cutOne D (nI x) (TD h c k sv v) = some (.int (nI e), TD h (va_up c 5 (nI (n + 1))) (va_up k n (nI k')) (va_up sv n (nI x)) (va_up v n (nI v'))) ∧ TOKS by_ len x e k' v' ∧ (x < e ∧ e ≤ len ∧ k' < 1000 ∧ v' ≤ 10000 ∧ ¬ k' = 259) := by
  obtain ⟨d, rfl⟩ : ∃ d, D = d + 2 := ⟨D - 2, by omega⟩
  have LT := lay_TD L c k sv v
  obtain ⟨b1, b2⟩ := hbT L hl hb c k sv v x (by omega)
  rw [S_X7_cutOne LT, ck_pos ((ib_nIi (by omega)).mpr (by omega)), ix_nI (by omega), b1, c_dig LT (by omega) b2, cI_some]
  by_cases c1 : 48 ≤ by_ x ∧ by_ x ≤ 57
  · obtain ⟨e, R⟩ := run_ex (P := isD) (by_ := by_) (len := len) (len - x) x (by omega) (by omega) c1
    have q := c_cn6 L hl hb (D := d) (by omega) (k := k) (sv := sv) (v := v) e1 R (e - x) x (by have := R.1; omega) (Nat.le_refl _)
    rw [Nat.sub_self] at q
    refine ⟨e, 258, cNu by_ x (e - x), ?_, Or.inr (Or.inl ⟨hx, c1, R, rfl, rfl⟩), R.1, R.2.1, by decide, cNu_le _ _ _, by decide⟩
    rw [if_pos c1, if_neg (by decide), S_X7_cutNumber LT, show G_X7_cutNumber_6 d (nI x) 0 (nI x) (nI x) (TD h c k sv v) = _ from q, S_X7_cutNumber_35 LT, c_add L hl hb (by omega) e5 hn, cV_some, cI_some]
    rfl
  rw [if_neg c1, if_pos rfl, ck_pos ((ib_nIi (by omega)).mpr (by omega)), b1, c_ltr LT (by omega) b2, cI_some]
  by_cases c2 : 97 ≤ by_ x ∧ by_ x ≤ 122 ∨ 65 ≤ by_ x ∧ by_ x ≤ 90
  · obtain ⟨e, R⟩ := run_ex (P := isL) (by_ := by_) (len := len) (len - x) x (by omega) (by omega) c2
    have q := c_cw4 L hl hb (D := d) (by omega) (k := k) (sv := sv) (v := v) e1 R (e - x) x (by have := R.1; omega) (Nat.le_refl _)
    obtain ⟨k', k1, k2, k3⟩ := c_word LT hl (hbT L hl hb c k sv v) (s := x) (e := e) ⟨R.1, R.2.1⟩ (D := d) (by omega)
    have k9 : ¬ k' = 259 := by
      rcases k2 with ⟨i, i1, i2, i3⟩ | ⟨i1, i2⟩ <;> omega
    refine ⟨e, k', 0, ?_, Or.inr (Or.inr (Or.inl ⟨hx, c2, R, k2⟩)), R.1, R.2.1, k1, by decide, k9⟩
    rw [if_pos c2, if_neg (by decide), S_X7_cutWord LT, q, S_X7_cutWord_20 LT, k3, cI_some, c_add L hl hb (by omega) e5 hn, cV_some, cI_some]
    rfl
  rw [if_neg c2, if_pos rfl, S_X7_cutSign LT, ck_pos ((ib_nIi (by omega)).mpr (by omega)), ix_nI (by omega), b1, lt_def, gI_TD50, e1, nI_1]
  obtain ⟨vs, vs1, vs2⟩ := c_sign LT (D := d) (by omega) b2
  have e45 : ∀ z, G_X7_cutSign_45 d (nI x) (nI (by_ x)) z (TD h c k sv v) = some (.int (nI (x + 1)), TD h (va_up c 5 (nI (n + 1))) (va_up k n (if vs = 0 then 260 else nI (by_ x))) (va_up sv n (nI x)) (va_up v n 0)) := by
    intro z
    rw [S_X7_cutSign_45 LT, vs1, cI_some]
    by_cases z0 : vs = 0
    · rw [if_pos z0, if_pos z0, S_X7_cutSign_52 LT, c_add L hl hb (by omega) e5 hn, cV_some, nI_1]
    · rw [if_neg z0, if_neg z0, S_X7_cutSign_52 LT, c_add L hl hb (by omega) e5 hn, cV_some, nI_1]
  by_cases c3 : orL by_ len x
  · obtain ⟨o1, o2, o3⟩ := c3
    obtain ⟨b3, b4⟩ := hbT L hl hb c k sv v (x + 1) (by omega)
    have e31 : G_X7_cutSign_31 d (nI x) (nI (by_ x)) 1 (TD h c k sv v) = some (.int (nI (x + 2)), TD h (va_up c 5 (nI (n + 1))) (va_up k n (nI (if by_ x = 60 then 256 else 257))) (va_up sv n (nI x)) (va_up v n 0)) := by
      rw [S_X7_cutSign_31 LT]
      by_cases z : by_ x = 60
      · rw [z, if_pos (by decide), if_pos rfl, S_X7_cutSign_38 LT, c_add L hl hb (by omega) e5 hn, cV_some, nIb]
        rfl
      · rw [if_neg (by rw [nIe (by omega) (by decide)]; exact z), if_neg z, S_X7_cutSign_38 LT, c_add L hl hb (by omega) e5 hn, cV_some, nIb]
        rfl
    refine ⟨x + 2, if by_ x = 60 then 256 else 257, 0, ?_, Or.inr (Or.inr (Or.inr ⟨hx, ⟨c1, c2⟩, Or.inl ⟨⟨o1, o2, o3⟩, rfl, ?_⟩⟩)), by omega, by omega, by split <;> omega, by decide, by split <;> omega⟩
    · rw [if_pos (by rw [nI_ltI (by omega) (by omega)]; exact o2), ck_pos ((ib_nIi (by omega)).mpr (by omega)), ix_nI (by omega), b3, o3, if_pos (by decide), S_X7_cutSign_22 LT, if_neg (by decide)]
      rcases o1 with z | z
      · rw [if_pos (by rw [z]; rfl), e31, cI_some]
        rfl
      · rw [if_neg (by rw [z]; decide), if_pos (by rw [z]; rfl), e31, cI_some]
        rfl
    · rcases o1 with z | z
      · exact Or.inl ⟨z, if_pos z⟩
      · exact Or.inr ⟨z, if_neg (by omega)⟩
  · have key : (if nI (x + 1) < nI len then ck (ib (nI (x + 1)) 300) (if gI (TD h c k sv v) 51 (ix (nI (x + 1))) = 61 then G_X7_cutSign_22 d (nI x) (nI (by_ x)) 1 (TD h c k sv v) else G_X7_cutSign_21 d (nI x) (nI (by_ x)) (TD h c k sv v)) else G_X7_cutSign_21 d (nI x) (nI (by_ x)) (TD h c k sv v)) = some (.int (nI (x + 1)), TD h (va_up c 5 (nI (n + 1))) (va_up k n (if vs = 0 then 260 else nI (by_ x))) (va_up sv n (nI x)) (va_up v n 0)) := by
      have e21 : G_X7_cutSign_21 d (nI x) (nI (by_ x)) (TD h c k sv v) = some (.int (nI (x + 1)), TD h (va_up c 5 (nI (n + 1))) (va_up k n (if vs = 0 then 260 else nI (by_ x))) (va_up sv n (nI x)) (va_up v n 0)) := by
        rw [S_X7_cutSign_21 LT, S_X7_cutSign_22 LT, if_pos rfl, e45]
      by_cases q1 : x + 1 < len
      · obtain ⟨b3, b4⟩ := hbT L hl hb c k sv v (x + 1) (by omega)
        rw [if_pos (by rw [nI_ltI (by omega) (by omega)]; exact q1), ck_pos ((ib_nIi (by omega)).mpr (by omega)), ix_nI (by omega), b3]
        by_cases q2 : by_ (x + 1) = 61
        · have q3 : ¬ (by_ x = 60 ∨ by_ x = 62) := fun z => c3 ⟨z, q1, q2⟩
          rw [q2, if_pos (by decide), S_X7_cutSign_22 LT, if_neg (by decide), if_neg (by rw [nIe (by omega) (by decide)]; exact fun z => q3 (Or.inl z)), if_neg (by rw [nIe (by omega) (by decide)]; exact fun z => q3 (Or.inr z)), e45]
        · rw [if_neg (by rw [nIe (by omega) (by decide)]; exact q2), e21]
      · rw [if_neg (by rw [nI_ltI (by omega) (by omega)]; exact q1), e21]
    rw [key, cI_some]
    rcases vs2 with ⟨z1, z2⟩ | ⟨z1, z2⟩
    · refine ⟨x + 1, 260, 0, by rw [if_pos z1]; rfl, Or.inr (Or.inr (Or.inr ⟨hx, ⟨c1, c2⟩, Or.inr ⟨c3, rfl, Or.inr ⟨z2, rfl⟩⟩⟩)), by omega, by omega, by decide, by decide, by decide⟩
    · have := sgnT_c z2
      refine ⟨x + 1, by_ x, 0, by rw [z1, if_neg (by decide)]; rfl, Or.inr (Or.inr (Or.inr ⟨hx, ⟨c1, c2⟩, Or.inr ⟨c3, rfl, Or.inl ⟨z2, rfl⟩⟩⟩)), by omega, by omega, by omega, by decide, by omega⟩
end CUT
/-- n tokens are cut; the bytes from their end up to x are blank -/
def posT (te : Nat → Nat) (i : Nat) : Nat := match i with
  | 0 => 0
  | i + 1 => te i
def CTT (by_ : Nat → Nat) (len n x : Nat) (c k s v : Nat → Int32) (tk ts tv te : Nat → Nat) : Prop := (c 1 = nI len ∧ c 5 = nI n) ∧ (∀ i, i < n → (k i = nI (tk i) ∧ s i = nI (ts i) ∧ v i = nI (tv i)) ∧ (tk i < 1000 ∧ tv i ≤ 10000 ∧ ts i ≤ 300 ∧ ¬ tk i = 259) ∧ BLK by_ len (posT te i) (ts i) ∧ TOKS by_ len (ts i) (te i) (tk i) (tv i)) ∧ (posT te n ≤ x ∧ (∀ j, posT te n ≤ j → j < x → isB (by_ j)) ∧ n ≤ x ∧ x ≤ len)
def TOKQ (by_ : Nat → Nat) (len : Nat) (tk ts tv te : Nat → Nat) (T : Nat) : Prop := ∀ i, i ≤ T → BLK by_ len (posT te i) (ts i) ∧ TOKS by_ len (ts i) (te i) (tk i) (tv i)
section CUT2
theorem posT_up {h : MH} (L : lay h) {by_ : Nat → Nat} {len : Nat} (hl : len ≤ 300) (hb : ∀ j, j < 300 → gI h 51 j = nI (by_ j) ∧ by_ j < 256) {te : Nat → Nat} {n y : Nat} : ∀ i, i ≤ n → posT (va_up te n y) i = posT te i := by
  intro i hi
  cases i with
  | zero => rfl
  | succ i => show va_up te n y i = te i; rw [va_ne _ _ (by omega)]
theorem c_cut7 {h : MH} (L : lay h) {by_ : Nat → Nat} {len : Nat} (hl : len ≤ 300) (hb : ∀ j, j < 300 → gI h 51 j = nI (by_ j) ∧ by_ j < 256) {D : Nat} (hD : 13 ≤ D) : ∀ (r x i n : Nat) (c k s v : Nat → Int32) (tk ts tv te : Nat → Nat), len - x < r → i ≤ x → CTT by_ len n x c k s v tk ts tv te → ∃ c' k' s' v' tk' ts' tv' te' T, G_X7_cut_7 D (nI x) (nI i) (TD h c k s v) = some (.int 0, TD h c' k' s' v') ∧ (T ≤ 300 ∧ c' 5 = nI (T + 1)) ∧ (∀ i, i ≤ T → k' i = nI (tk' i) ∧ s' i = nI (ts' i) ∧ v' i = nI (tv' i) ∧ tk' i < 1000 ∧ tv' i ≤ 10000 ∧ ts' i ≤ 300) ∧ tk' T = 259 ∧ (∀ i, i < T → ¬ tk' i = 259) ∧ TOKQ by_ len tk' ts' tv' te' T ∧ ∀ j, ¬ j = 5 → c' j = c j := by
  intro r
  induction r with
  | zero => intro x i n c k s v tk ts tv te hr; omega
  | succ r ih =>
    intro x i n c k s v tk ts tv te hr hi C
    have C0 := C
    obtain ⟨⟨e1, e5⟩, C2, p1, p2, p3, p4⟩ := C
    have LT := lay_TD L c k s v
    rw [S_X7_cut_7 LT]
    by_cases q : x < len
    · obtain ⟨b1, b2⟩ := hbT L hl hb c k s v x (by omega)
      rw [if_pos (by rw [nIl (by omega) (by decide)]; show i < 300; omega), gI_TD50, e1, if_pos (by rw [nI_ltI (by omega) (by omega)]; exact q), ck_pos ((ib_nIi (by omega)).mpr (by omega)), ix_nI (by omega), b1, c_blk LT (by omega) b2, cI_some]
      by_cases c1 : by_ x = 32 ∨ by_ x = 10
      · rw [if_pos c1, if_neg (by decide), S_X7_cut_27 LT, nI_1, nI_1]
        refine ih (x + 1) (i + 1) n c k s v tk ts tv te (by omega) (by omega) ⟨⟨e1, e5⟩, C2, by omega, fun j j1 j2 => ?_, by omega, by omega⟩
        rcases Nat.lt_or_ge j x with z | z
        · exact p2 j j1 z
        · rw [show j = x by omega]; exact c1
      · obtain ⟨e, k', v', r1, r2, r3, r4, r5, r6, r7⟩ := c_one L hl hb (D := D) (by omega) (k := k) (sv := s) (v := v) e1 e5 (by omega) q c1
        rw [if_neg c1, if_pos rfl, r1, cI_some, S_X7_cut_27 (lay_TD L _ _ _ _), nI_1]
        have C' : CTT by_ len (n + 1) e (va_up c 5 (nI (n + 1))) (va_up k n (nI k')) (va_up s n (nI x)) (va_up v n (nI v')) (va_up tk n k') (va_up ts n x) (va_up tv n v') (va_up te n e) := by
          refine ⟨⟨by rw [va_ne _ _ (by decide)]; exact e1, va_same _ _ _⟩, fun j hj => ?_, ?_, fun j j1 j2 => ?_, by omega, r4⟩
          · rcases Nat.lt_or_ge j n with z | z
            · have hz : ¬ j = n := by omega
              rw [va_ne _ _ hz, va_ne _ _ hz, va_ne _ _ hz, va_ne _ _ hz, va_ne _ _ hz, va_ne _ _ hz, va_ne _ _ hz, posT_up L hl hb j (by omega)]
              exact C2 j z
            · have hz : j = n := by omega
              subst hz
              rw [va_same, va_same, va_same, va_same, va_same, va_same, va_same, posT_up L hl hb j (by omega)]
              exact ⟨⟨rfl, rfl, rfl⟩, ⟨r5, r6, by omega, r7⟩, ⟨p1, by omega, p2, fun _ => c1⟩, r2⟩
          · show va_up te n e n ≤ e
            rw [va_same]; exact Nat.le_refl _
          · have j1' : va_up te n e n ≤ j := j1
            rw [va_same] at j1'
            omega
        obtain ⟨c', k2, s2, v2, tk', ts', tv', te', T, g1, g2, g3, g4, g5, g6, g7⟩ := ih e (i + 1) (n + 1) _ _ _ _ _ _ _ _ (by omega) (by omega) C'
        exact ⟨c', k2, s2, v2, tk', ts', tv', te', T, g1, g2, g3, g4, g5, g6, fun j hj => by rw [g7 j hj, va_ne _ _ hj]⟩
    · have hx : x = len := by omega
      have e30 : G_X7_cut_30 D (nI x) (nI i) (TD h c k s v) = some (.int 0, TD h (va_up c 5 (nI (n + 1))) (va_up k n 259) (va_up s n (nI len)) (va_up v n 0)) := by
        rw [S_X7_cut_30 LT, gI_TD50, e1, c_add L hl hb (by omega) e5 (by omega), cV_some]
      refine ⟨va_up c 5 (nI (n + 1)), va_up k n 259, va_up s n (nI len), va_up v n 0, va_up tk n 259, va_up ts n len, va_up tv n 0, va_up te n len, n, ?_, ⟨by omega, va_same _ _ _⟩, fun j hj => ?_, va_same _ _ _, fun j hj => ?_, fun j hj => ?_, fun j hj => va_ne _ _ hj⟩
      · rw [← e30, gI_TD50, e1, if_neg (show ¬ nI x < nI len by rw [nI_ltI (by omega) (by omega)]; exact q), ite_self]
      · rcases Nat.lt_or_ge j n with z | z
        · have hz : ¬ j = n := by omega
          rw [va_ne _ _ hz, va_ne _ _ hz, va_ne _ _ hz, va_ne _ _ hz, va_ne _ _ hz, va_ne _ _ hz]
          obtain ⟨⟨u1, u2, u3⟩, ⟨u4, u5, u6, u7⟩, u8⟩ := C2 j z
          exact ⟨u1, u2, u3, u4, u5, u6⟩
        · have hz : j = n := by omega
          subst hz
          rw [va_same, va_same, va_same, va_same, va_same, va_same]
          exact ⟨rfl, rfl, rfl, by decide, by decide, hl⟩
      · rw [va_ne _ _ (by omega)]
        exact (C2 j hj).2.1.2.2.2
      · rcases Nat.lt_or_ge j n with z | z
        · have hz : ¬ j = n := by omega
          rw [va_ne _ _ hz, va_ne _ _ hz, va_ne _ _ hz, va_ne _ _ hz, posT_up L hl hb j (by omega)]
          exact (C2 j z).2.2
        · have hz : j = n := by omega
          subst hz
          rw [va_same, va_same, va_same, va_same, posT_up L hl hb j (by omega)]
          exact ⟨⟨by omega, Nat.le_refl _, fun i i1 i2 => p2 i i1 (by omega), fun z => by omega⟩, Or.inl ⟨rfl, rfl, rfl⟩⟩
theorem c_cut {h : MH} (L : lay h) {by_ : Nat → Nat} {len : Nat} (hl : len ≤ 300) (hb : ∀ j, j < 300 → gI h 51 j = nI (by_ j) ∧ by_ j < 256) {D : Nat} (hD : 14 ≤ D) {c k s v : Nat → Int32} (e1 : c 1 = nI len) : ∃ c' k' s' v' tk ts tv te T, F_X7_cut D (TD h c k s v) = some (.int 0, TD h c' k' s' v') ∧ (T ≤ 300 ∧ c' 5 = nI (T + 1)) ∧ (∀ i, i ≤ T → k' i = nI (tk i) ∧ s' i = nI (ts i) ∧ v' i = nI (tv i) ∧ tk i < 1000 ∧ tv i ≤ 10000 ∧ ts i ≤ 300) ∧ tk T = 259 ∧ (∀ i, i < T → ¬ tk i = 259) ∧ TOKQ by_ len tk ts tv te T ∧ ∀ j, ¬ j = 5 → c' j = c j := by
  obtain ⟨d, rfl⟩ : ∃ d, D = d + 1 := ⟨D - 1, by omega⟩
  obtain ⟨c', k', s', v', tk, ts, tv, te, T, g1, g2, g3, g4, g5, g6, g7⟩ := c_cut7 L hl hb (D := d) (by omega) (len + 1) 0 0 0 (va_up c 5 0) k s v (fun _ => 0) (fun _ => 0) (fun _ => 0) (fun _ => 0) (by omega) (Nat.le_refl _) ⟨⟨by rw [va_ne _ _ (by decide)]; exact e1, va_same _ _ _⟩, fun i hi => absurd hi (Nat.not_lt_zero i), Nat.le_refl _, fun j j1 j2 => absurd j2 (Nat.not_lt_zero j), Nat.le_refl _, Nat.zero_le _⟩
  refine ⟨c', k', s', v', tk, ts, tv, te, T, ?_, g2, g3, g4, g5, g6, fun j hj => by rw [g7 j hj, va_ne _ _ hj]⟩
  rw [S_X7_cut (lay_TD L _ _ _ _), sI_TD50, lt_def]
  exact g1
end CUT2
