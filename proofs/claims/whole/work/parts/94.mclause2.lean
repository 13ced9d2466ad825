--deps:19.lay 21.facts 22.00.names 22.01.eq 22.02.eq 22.03.eq 22.04.eq 22.05.eq 22.06.eq 22.07.eq 22.08.eq 22.09.eq 22.10.eq 22.11.eq 22.12.eq 22.13.eq 22.14.eq 22.15.eq 22.16.eq 22.17.eq 22.18.eq 22.19.eq 22.20.eq 22.21.eq 22.22.eq 22.23.eq 23.num 24.town 25.evc 26.evm 27.law 28.says 29.inv 66.script 71.yard 72.yard2 73.gx 74.gx2 75.gx3 76.reader 77.read2 79.mtok 80.mpile 81.myard 82.msum 83.msum2 84.msum3 89.nums 90.keep 91.clause 93.mclause
/-! THE REFERENCE READS A CLAUSE: whole ones -/
set_option linter.unusedSectionVars false
def MRW (t : Nat → Int32) (tx : Nat) (c : List (Nat × Nat)) (j K F S : Nat) (m : List (Nat × Nat)) : Prop := t (681 * tx + 3 * j + 1) = nI K ∧ (K ≤ 1 → ∃ c1 c2, c = c1 ++ m ++ c2 ∧ t (681 * tx + 3 * j + 2) = nI c1.length ∧ t (681 * tx + 3 * j + 3) = nI (c1.length + m.length)) ∧ (2 ≤ K → t (681 * tx + 3 * j + 2) = nI F) ∧ (K = 2 ∨ K = 3 ∨ K = 6 → t (681 * tx + 3 * j + 3) = nI S)
def obN (b0 b1 : Bool) : Nat := (if b0 = true then 1 else 0) + (if b1 = true then 2 else 0)
def MCS (tk ts tv te : Nat → Nat) (T len tx : Nat) (a t : Nat → Int32) (w : Nat → Int64) (p i : Nat) (c : List (Nat × Nat)) (K F S : Nat → Nat) (ms : Nat → List (Nat × Nat)) (b0 b1 : Bool) : Prop := (a 13 = nI c.length ∧ a 12 = nI (681 * tx) ∧ a 4 = nI len ∧ a 19 = nI (obN b0 b1)) ∧ atM t (681 * tx + 73) 0 c ∧ LX tk ts tv te a w p ∧ (c.length ≤ p ∧ p ≤ T ∧ T ≤ 300 ∧ i ≤ 24) ∧ t (681 * tx) = nI i ∧ ∀ j, j < i → MRW t tx c j (K j) (F j) (S j) (ms j)
theorem MRW_up {t t' : Nat → Int32} {tx : Nat} {c m' : List (Nat × Nat)} {j K F S : Nat} {m : List (Nat × Nat)} (M : MRW t tx c j K F S m) (e1 : t' (681 * tx + 3 * j + 1) = t (681 * tx + 3 * j + 1)) (e2 : t' (681 * tx + 3 * j + 2) = t (681 * tx + 3 * j + 2)) (e3 : t' (681 * tx + 3 * j + 3) = t (681 * tx + 3 * j + 3)) : MRW t' tx (c ++ m') j K F S m := by
  obtain ⟨m1, m2, m3, m4⟩ := M
  refine ⟨e1.trans m1, fun z => ?_, fun z => e2.trans (m3 z), fun z => e3.trans (m4 z)⟩
  obtain ⟨c1, c2, q1, q2, q3⟩ := m2 z
  exact ⟨c1, c2 ++ m', by rw [q1, List.append_assoc, List.append_assoc], e2.trans q2, e3.trans q3⟩
theorem has_ob {h : MH} (L : lay h) {D : Nat} (hD : 1 ≤ D) (b0 b1 : Bool) {K : Nat} (hK : K ≤ 1) : F_X11_has D (nI (obN b0 b1)) (nI K) h = some (.int (if (if K = 0 then b0 else b1) = true then 1 else 0), h) := by
  obtain ⟨d, rfl⟩ : ∃ d, D = d + 1 := ⟨D - 1, by omega⟩
  rw [S_X11_has L]
  have : K = 0 ∨ K = 1 := by omega
  rcases this with rfl | rfl <;> cases b0 <;> cases b1
  · rw [if_neg (by decide)]; rfl
  · rw [if_neg (by decide)]; rfl
  · rw [if_pos (by decide)]; rfl
  · rw [if_pos (by decide)]; rfl
  · rw [if_neg (by decide)]; rfl
  · rw [if_pos (by decide)]; rfl
  · rw [if_neg (by decide)]; rfl
  · rw [if_pos (by decide)]; rfl
theorem or_ob (b0 b1 : Bool) {K : Nat} (hK : K ≤ 1) : nI (obN b0 b1) ||| (1 <<< (nI K &&& 31)) = nI (obN (b0 || K == 0) (b1 || K == 1)) := by
  have : K = 0 ∨ K = 1 := by omega
  rcases this with rfl | rfl <;> cases b0 <;> cases b1 <;> decide
section MCM
theorem m_bodO {h : MH} (L : lay h) {tk : Nat → Nat} {ts : Nat → Nat} {tv : Nat → Nat} {te : Nat → Nat} {T : Nat} {len : Nat} {tx : Nat} (N : NXT h tk ts tv te T len) (hx : tx < 4) (hT : tk T = 259) {a t pl : Nat → Int32} {w : Nat → Int64} {p q x K F S : Nat} (X : LX tk ts tv te a w p) (e4 : a 4 = nI len) (hp : p ≤ T) {D : Nat} (hD : 11 ≤ D) (hx2 : x + 2 < 2724) (B : BNO tk tv K p q F S) : ∃ a' t' w', F_X11_body D (nI K) (nI x) (MD h a t pl w) = some (.int 0, MD h a' t' pl w') ∧ LX tk ts tv te a' w' q ∧ q ≤ T ∧ (∀ k, ¬ k = 7 → ¬ k = 8 → ¬ k = 9 → ¬ k = 10 → a' k = a k) ∧ (∀ j, ¬ j = x + 1 → ¬ j = x + 2 → t' j = t j) ∧ t' (x + 1) = nI F ∧ (K = 2 ∨ K = 3 ∨ K = 6 → t' (x + 2) = nI S) := by
  obtain ⟨d, rfl⟩ : ∃ d, D = d + 1 := ⟨D - 1, by omega⟩
  have LM := lay_MD L a t pl w
  obtain ⟨⟨b1, b2, b3, b4⟩, B⟩ := B
  have hrH : rgH K < 1000 := by unfold rgH; repeat (first | omega | split)
  rcases B with ⟨k, c1, c2, c3, c4, rfl⟩ | ⟨k, rfl, rfl⟩
  · obtain ⟨a', w', r1, r2, r3, r4⟩ := m_atO L N hx hT (t := t) (pl := pl) (x := x) (lo := rgL K) (hi := rgH K) X e4 hp (D := d) (by omega) hx2 hrH b1 (by omega) c1 c2 c3 c4
    refine ⟨a', va_up (va_up t (x + 1) (nI (tv p))) (x + 2) (nI S), w', ?_, r2, r3, r4, fun j h1 h2 => by rw [va_ne _ _ h2, va_ne _ _ h1], by rw [va_ne _ _ (by omega), va_same, b2], fun _ => va_same _ _ _⟩
    rw [S_X11_body LM]
    rcases k with rfl | rfl | rfl
    · rw [if_pos (by decide), show F_X11_atPlace d (nI x) 1 9 (MD h a t pl w) = _ from r1, cI_some]
    · rw [if_neg (by decide), if_pos (by decide), show F_X11_atPlace d (nI x) 0 3 (MD h a t pl w) = _ from r1, cI_some]
    · rw [if_neg (by decide), if_neg (by decide), if_neg (by decide), if_neg (by decide), if_pos (by decide), show F_X11_atPlace d (nI x) 1 9 (MD h a t pl w) = _ from r1, cI_some]
  · obtain ⟨a', w', r1, r2, r3, r4⟩ := m_fgO L N hx hT (t := t) (pl := pl) (x := x + 1) (lo := rgL K) (hi := rgH K) X e4 hp (D := d) (by omega) (by omega) hrH b1 (by omega)
    refine ⟨a', va_up t (x + 1) (nI (tv p)), w', ?_, r2, r3, r4, fun j h1 h2 => va_ne _ _ h1, by rw [va_same, b2], fun z => by omega⟩
    rw [S_X11_body LM]
    rcases k with rfl | rfl | rfl
    · rw [if_neg (by decide), if_neg (by decide), if_pos (by decide), nI_1, show F_X11_figure d (nI (x + 1)) 0 3 (MD h a t pl w) = _ from r1, cI_some]
    · rw [if_neg (by decide), if_neg (by decide), if_neg (by decide), if_pos (by decide), nI_1, show F_X11_figure d (nI (x + 1)) 0 3 (MD h a t pl w) = _ from r1, cI_some]
    · rw [if_neg (by decide), if_neg (by decide), if_neg (by decide), if_neg (by decide), if_neg (by decide), if_pos (by decide), nI_1, show F_X11_figure d (nI (x + 1)) 1 60 (MD h a t pl w) = _ from r1, cI_some]
theorem m_bodN {h : MH} (L : lay h) {tk : Nat → Nat} {ts : Nat → Nat} {tv : Nat → Nat} {te : Nat → Nat} {T : Nat} {len : Nat} {tx : Nat} (N : NXT h tk ts tv te T len) (hx : tx < 4) (hT : tk T = 259) {a t pl : Nat → Int32} {w : Nat → Int64} {p q x K fl : Nat} (hK : 2 ≤ K ∧ K ≤ 7) (X : LX tk ts tv te a w p) (e4 : a 4 = nI len) (hp : p ≤ T) {D : Nat} (hD : 11 ≤ D) (hx2 : x + 2 < 2724) (B : BNN tk tv K p fl q) : ∃ a' t' w', F_X11_body D (nI K) (nI x) (MD h a t pl w) = some (.int (nI fl), MD h a' t' pl w') ∧ LX tk ts tv te a' w' q ∧ (∀ k, ¬ k = 7 → ¬ k = 8 → ¬ k = 9 → ¬ k = 10 → a' k = a k) ∧ (∀ j, ¬ j = x + 1 → t' j = t j) := by
  obtain ⟨d, rfl⟩ : ∃ d, D = d + 1 := ⟨D - 1, by omega⟩
  have LM := lay_MD L a t pl w
  have hrH : rgL K < 1000 ∧ rgH K < 1000 := by unfold rgL rgH; constructor <;> (repeat (first | omega | split))
  have kk : (K = 2 ∨ K = 3 ∨ K = 6) ∨ (K = 4 ∨ K = 5 ∨ K = 7) := by omega
  rcases kk with k | k
  · obtain ⟨a', t', w', r1, r2, r3, r4⟩ := m_atN L N hx hT (t := t) (pl := pl) (x := x) (lo := rgL K) (hi := rgH K) (fl := fl) (q := q) X e4 hp (D := d) (by omega) hx2 hrH.1 hrH.2 (by
      rcases B with b | b | ⟨b1, b2, b3⟩
      · exact Or.inl b
      · exact Or.inr (Or.inl b)
      · exact Or.inr (Or.inr ⟨b1, b3⟩))
    refine ⟨a', t', w', ?_, r2, r3, r4⟩
    rw [S_X11_body LM]
    rcases k with rfl | rfl | rfl
    · rw [if_pos (by decide), show F_X11_atPlace d (nI x) 1 9 (MD h a t pl w) = _ from r1, cI_some]
    · rw [if_neg (by decide), if_pos (by decide), show F_X11_atPlace d (nI x) 0 3 (MD h a t pl w) = _ from r1, cI_some]
    · rw [if_neg (by decide), if_neg (by decide), if_neg (by decide), if_neg (by decide), if_pos (by decide), show F_X11_atPlace d (nI x) 1 9 (MD h a t pl w) = _ from r1, cI_some]
  · have r1 : F_X11_figure d (nI (x + 1)) (nI (rgL K)) (nI (rgH K)) (MD h a t pl w) = some (.int (nI fl), MD h a t pl w) ∧ q = p := by
      rcases B with ⟨b1, rfl, rfl⟩ | ⟨b1, b2, rfl, rfl⟩ | ⟨b1, b2, b3⟩
      · exact ⟨m_fgB L N hx hT X (by omega) b1, rfl⟩
      · exact ⟨m_fgR L N hx hT X (by omega) hrH.1 hrH.2 b1 b2, rfl⟩
      · omega
    obtain ⟨r1, rfl⟩ := r1
    refine ⟨a, t, w, ?_, X, fun _ _ _ _ _ => rfl, fun _ _ => rfl⟩
    rw [S_X11_body LM]
    rcases k with rfl | rfl | rfl
    · rw [if_neg (by decide), if_neg (by decide), if_pos (by decide), nI_1, show F_X11_figure d (nI (x + 1)) 0 3 (MD h a t pl w) = _ from r1, cI_some]
    · rw [if_neg (by decide), if_neg (by decide), if_neg (by decide), if_pos (by decide), nI_1, show F_X11_figure d (nI (x + 1)) 0 3 (MD h a t pl w) = _ from r1, cI_some]
    · rw [if_neg (by decide), if_neg (by decide), if_neg (by decide), if_neg (by decide), if_neg (by decide), if_pos (by decide), nI_1, show F_X11_figure d (nI (x + 1)) 1 60 (MD h a t pl w) = _ from r1, cI_some]
/-- up to the body -/
theorem m_cl39 {h : MH} (L : lay h) {tk : Nat → Nat} {ts : Nat → Nat} {tv : Nat → Nat} {te : Nat → Nat} {T : Nat} {len : Nat} {tx : Nat} (N : NXT h tk ts tv te T len) (hx : tx < 4) (hT : tk T = 259) {a t pl : Nat → Int32} {w : Nat → Int64} {p i K' : Nat} {c : List (Nat × Nat)} {K F S : Nat → Nat} {ms : Nat → List (Nat × Nat)} {b0 b1 : Bool} (M : MCS tk ts tv te T len tx a t w p i c K F S ms b0 b1) (hi : i < 24) (hK : tk p = 300 + K') (hK7 : K' ≤ 7) (t0 : ¬ (K' = 0 ∧ b0 = true)) (t1 : ¬ (K' = 1 ∧ b1 = true)) {D : Nat} (hD : 12 ≤ D) : ∃ a1 w1, F_X11_clause D (MD h a t pl w) = cI (F_X11_body (D - 1) (nI K') (nI (681 * tx + 1 + 3 * i)) (MD h a1 (va_up t (681 * tx + 1 + 3 * i) (nI K')) pl w1)) (fun x16 h15 => (if x16 = 0 then ck (ib (gI h15 67 12) 2724) (ck (ib (gI h15 67 12) 2724) (lt_ (sI h15 70 (ix (gI h15 67 12)) ((gI h15 70 (ix (gI h15 67 12))) + 1)) fun h18 => (if (gI h18 67 9) = 59 then cV (F_X11_nextToken (D - 1) h18) (fun h19 => some (.int 0, h19)) else some (.int 1, h18)))) else some (.int x16, h15))) ∧ LX tk ts tv te a1 w1 (p + 1) ∧ p + 1 ≤ T ∧ (a1 13 = nI c.length ∧ a1 12 = nI (681 * tx) ∧ a1 4 = nI len ∧ a1 14 = nI K' ∧ a1 19 = nI (obN (b0 || K' == 0) (b1 || K' == 1))) ∧ ∀ k, kpC k → a1 k = a k := by
  obtain ⟨d, rfl⟩ : ∃ d, D = d + 1 := ⟨D - 1, by omega⟩
  obtain ⟨⟨e13, e12, e4, e19⟩, hat, X, ⟨m1, m2, m3, m4⟩, et, rows⟩ := M
  have LM := lay_MD L a t pl w
  have hlt := lt_TT L N hx hT m2 (by omega)
  have e17 : F_X11_clause (d + 1) (MD h a t pl w) = G_X11_clause_17 d (nI K') (MD h a t pl w) := by
    have ms' : (if 300 ≤ tk p ∧ tk p ≤ 307 then nI (tk p - 300) else -1) = nI K' := by rw [if_pos (by omega), hK, show 300 + K' - 300 = K' by omega]
    rw [S_X11_clause LM, m_sort L N hx hT X (by omega), ms', cI_some, if_neg (nIz (by omega))]
    by_cases q : K' ≤ 1
    · have hb : ¬ (if K' = 0 then b0 else b1) = true := by
        by_cases z : K' = 0
        · rw [if_pos z]; exact fun w => t0 ⟨z, w⟩
        · rw [if_neg z]; exact fun w => t1 ⟨by omega, w⟩
      rw [if_pos (by rw [nIL (by omega) (by decide)]; exact q), gI_MD67, e19, has_ob LM (by omega) b0 b1 q, cI_some, if_neg hb, if_pos rfl]
    · rw [if_neg (by rw [nIL (by omega) (by decide)]; exact q)]
  have e39 : ∃ a0, G_X11_clause_17 d (nI K') (MD h a t pl w) = G_X11_clause_39 d (nI K') (nI i) (MD h a0 t pl w) ∧ a0 19 = nI (obN (b0 || K' == 0) (b1 || K' == 1)) ∧ ∀ k, ¬ k = 19 → a0 k = a k := by
    rw [S_X11_clause_17 LM, gI_MD67, e12, ck_pos ((ib_nIi (by omega)).mpr (by omega)), ix_nI (by omega), gI_MD70, et, lt_def, if_neg (by rw [nIe (by omega) (by decide)]; show ¬ i = 24; omega)]
    by_cases q : K' ≤ 1
    · refine ⟨va_up a 19 (nI (obN (b0 || K' == 0) (b1 || K' == 1))), by rw [if_pos (by rw [nIL (by omega) (by decide)]; exact q), e19, or_ob b0 b1 q, sI_MD67, lt_def], va_same _ _ _, fun k hk => va_ne _ _ hk⟩
    · refine ⟨a, by rw [if_neg (by rw [nIL (by omega) (by decide)]; exact q)], ?_, fun _ _ => rfl⟩
      rw [e19, show (K' == 0) = false by simpa using (by omega : ¬ K' = 0), show (K' == 1) = false by simpa using (by omega : ¬ K' = 1), Bool.or_false, Bool.or_false]
  obtain ⟨a0, q1, q2, q3⟩ := e39
  obtain ⟨a1, w1, r1, r2, r3⟩ := N d (va_up a0 14 (nI K')) t pl w p (by omega) hlt (by rw [va_ne _ _ (by decide), q3 4 (by decide)]; exact e4) (LX_eq X (by rw [va_ne _ _ (by decide), q3 7 (by decide)]) (by rw [va_ne _ _ (by decide), q3 8 (by decide)]) (by rw [va_ne _ _ (by decide), q3 9 (by decide)]) (by rw [va_ne _ _ (by decide), q3 10 (by decide)]))
  have e12' : a1 12 = nI (681 * tx) := by rw [r3 12 (by decide) (by decide) (by decide) (by decide), va_ne _ _ (by decide), q3 12 (by decide)]; exact e12
  refine ⟨a1, w1, ?_, r2, by omega, ⟨?_, e12', ?_, ?_, ?_⟩, fun k hk => ?_⟩
  · rw [e17, q1, S_X11_clause_39 (lay_MD L _ _ _ _), sI_MD67, lt_def, r1, cV_some, gI_MD67, e12', nI_1, nIm, nI_add, lt_def, show 681 * tx + 1 + 3 * i = 681 * tx + 1 + 3 * i from rfl, ck_pos ((ib_nIi (by show 681 * tx + 1 + 3 * i < 2 ^ 31; omega)).mpr (by show 681 * tx + 1 + 3 * i < 2724; omega)), ix_nI (by show 681 * tx + 1 + 3 * i < 2 ^ 31; omega), sI_MD70, lt_def, Nat.add_sub_cancel]
  · rw [r3 13 (by decide) (by decide) (by decide) (by decide), va_ne _ _ (by decide), q3 13 (by decide)]; exact e13
  · rw [r3 4 (by decide) (by decide) (by decide) (by decide), va_ne _ _ (by decide), q3 4 (by decide)]; exact e4
  · rw [r3 14 (by decide) (by decide) (by decide) (by decide), va_same]
  · rw [r3 19 (by decide) (by decide) (by decide) (by decide), va_ne _ _ (by decide)]; exact q2
  · rw [r3 k hk.1 hk.2.1 hk.2.2.1 hk.2.2.2.1, va_ne _ _ hk.2.2.2.2.2.1, q3 k hk.2.2.2.2.2.2.2.2.2]
theorem m_fin {h : MH} (L : lay h) {tk : Nat → Nat} {ts : Nat → Nat} {tv : Nat → Nat} {te : Nat → Nat} {T : Nat} {len : Nat} {tx : Nat} (N : NXT h tk ts tv te T len) (hx : tx < 4) (hT : tk T = 259) {D : Nat} (hD : 3 ≤ D) {a t pl : Nat → Int32} {w : Nat → Int64} {q i : Nat} (e12 : a 12 = nI (681 * tx)) (e4 : a 4 = nI len) (et : t (681 * tx) = nI i) (X : LX tk ts tv te a w q) (hq : q ≤ T) (t1 : tk q = 59) : ∃ a' w', (fun x16 h15 => (if x16 = 0 then ck (ib (gI h15 67 12) 2724) (ck (ib (gI h15 67 12) 2724) (lt_ (sI h15 70 (ix (gI h15 67 12)) ((gI h15 70 (ix (gI h15 67 12))) + 1)) fun h18 => (if (gI h18 67 9) = 59 then cV (F_X11_nextToken D h18) (fun h19 => some (Value.int 0, h19)) else some (.int 1, h18)))) else some (.int x16, h15))) (0 : Int32) (MD h a t pl w) = some (.int 0, MD h a' (va_up t (681 * tx) (nI (i + 1))) pl w') ∧ LX tk ts tv te a' w' (q + 1) ∧ q + 1 ≤ T ∧ ∀ k, ¬ k = 7 → ¬ k = 8 → ¬ k = 9 → ¬ k = 10 → a' k = a k := by
  have hlt := lt_TT L N hx hT hq (by omega)
  obtain ⟨a', w', r1, r2, r3⟩ := N D a (va_up t (681 * tx) (nI (i + 1))) pl w q hD hlt e4 X
  refine ⟨a', w', ?_, r2, by omega, r3⟩
  dsimp only
  rw [if_pos rfl, gI_MD67, e12, ck_pos ((ib_nIi (by omega)).mpr (by omega)), ck_pos ((ib_nIi (by omega)).mpr (by omega)), ix_nI (by omega), gI_MD70, et, nI_1, sI_MD70, lt_def, gI_MD67, if_pos (show a 9 = 59 from (tkn_sgn X.1 (s := 59) (by decide)).mpr t1), r1, cV_some]
theorem m_finN {h : MH} (L : lay h) {tk : Nat → Nat} {ts : Nat → Nat} {tv : Nat → Nat} {te : Nat → Nat} {T : Nat} {len : Nat} {tx : Nat} (N : NXT h tk ts tv te T len) (hx : tx < 4) (hT : tk T = 259) {D : Nat} {a t pl : Nat → Int32} {w : Nat → Int64} {q i : Nat} (e12 : a 12 = nI (681 * tx)) (et : t (681 * tx) = nI i) (X : LX tk ts tv te a w q) (t1 : ¬ tk q = 59) : (fun x16 h15 => (if x16 = 0 then ck (ib (gI h15 67 12) 2724) (ck (ib (gI h15 67 12) 2724) (lt_ (sI h15 70 (ix (gI h15 67 12)) ((gI h15 70 (ix (gI h15 67 12))) + 1)) fun h18 => (if (gI h18 67 9) = 59 then cV (F_X11_nextToken D h18) (fun h19 => some (Value.int 0, h19)) else some (.int 1, h18)))) else some (.int x16, h15))) (0 : Int32) (MD h a t pl w) = some (.int 1, MD h a (va_up t (681 * tx) (nI (i + 1))) pl w) := by
  dsimp only
  rw [if_pos rfl, gI_MD67, e12, ck_pos ((ib_nIi (by omega)).mpr (by omega)), ck_pos ((ib_nIi (by omega)).mpr (by omega)), ix_nI (by omega), gI_MD70, et, nI_1, sI_MD70, lt_def, gI_MD67, if_neg (show ¬ a 9 = 59 from fun z => t1 ((tkn_sgn X.1 (s := 59) (by decide)).mp z))]
theorem atM_fr {h : MH} (L : lay h) {tk : Nat → Nat} {ts : Nat → Nat} {tv : Nat → Nat} {te : Nat → Nat} {T : Nat} {len : Nat} {tx : Nat} (N : NXT h tk ts tv te T len) (hx : tx < 4) (hT : tk T = 259) {t t' : Nat → Int32} {cb : Nat} {c : List (Nat × Nat)} (e : ∀ j, cb ≤ j → t' j = t j) (m : atM t cb 0 c) : atM t' cb 0 c := fun j hj => by
  rw [e _ (by omega), e _ (by omega)]
  exact m j hj
theorem m_clO {h : MH} (L : lay h) {tk : Nat → Nat} {ts : Nat → Nat} {tv : Nat → Nat} {te : Nat → Nat} {T : Nat} {len : Nat} {tx : Nat} (N : NXT h tk ts tv te T len) (hx : tx < 4) (hT : tk T = 259) {a t pl : Nat → Int32} {w : Nat → Int64} {p q i K' F' S' : Nat} {m : List (Nat × Nat)} {v : Den} {c : List (Nat × Nat)} {K F S : Nat → Nat} {ms : Nat → List (Nat × Nat)} {b0 b1 : Bool} (M : MCS tk ts tv te T len tx a t w p i c K F S ms b0 b1) (hi : i < 24) (t0 : ¬ (K' = 0 ∧ b0 = true)) (t1 : ¬ (K' = 1 ∧ b1 = true)) (O : CLO tk tv p q K' F' S' m v) {D : Nat} (hD : 24 ≤ D) : ∃ a' t' pl' w', F_X11_clause D (MD h a t pl w) = some (.int 0, MD h a' t' pl' w') ∧ MCS tk ts tv te T len tx a' t' w' q (i + 1) (c ++ m) (va_up K i K') (va_up F i F') (va_up S i S') (va_up ms i m) (b0 || K' == 0) (b1 || K' == 1) ∧ FRC tx a a' t t' := by
  obtain ⟨hK, O⟩ := O
  have hK7 : K' ≤ 7 := by rcases O with ⟨o, -⟩ | ⟨-, o, -⟩ <;> omega
  obtain ⟨a1, w1, r1, r2, r3, ⟨f13, f12, f4, f14, f19⟩, r5⟩ := m_cl39 L N hx hT (pl := pl) M hi hK hK7 t0 t1 (D := D) (by omega)
  obtain ⟨⟨e13, e12, e4, e19⟩, hat, X, ⟨m1, m2, m3, m4⟩, et, rows⟩ := M
  obtain ⟨x, ex⟩ : ∃ x, x = 681 * tx + 1 + 3 * i := ⟨_, rfl⟩
  rw [← ex] at r1
  -- the row of this clause, and those ahead of it
  have mk : ∀ (a' t' pl' : Nat → Int32) (w' : Nat → Int64), F_X11_clause D (MD h a t pl w) = some (.int 0, MD h a' t' pl' w') → (a' 13 = nI (c ++ m).length ∧ a' 12 = nI (681 * tx) ∧ a' 4 = nI len ∧ a' 19 = nI (obN (b0 || K' == 0) (b1 || K' == 1))) → atM t' (681 * tx + 73) 0 (c ++ m) → LX tk ts tv te a' w' q → ((c ++ m).length ≤ q ∧ q ≤ T) → t' (681 * tx) = nI (i + 1) → (∀ j, 681 * tx < j → j < 681 * tx + 73 → ¬ j = x → ¬ j = x + 1 → ¬ j = x + 2 → t' j = t j) → MRW t' tx (c ++ m) i K' F' S' m → FRC tx a a' t t' → ∃ a' t' pl' w', F_X11_clause D (MD h a t pl w) = some (.int 0, MD h a' t' pl' w') ∧ MCS tk ts tv te T len tx a' t' w' q (i + 1) (c ++ m) (va_up K i K') (va_up F i F') (va_up S i S') (va_up ms i m) (b0 || K' == 0) (b1 || K' == 1) ∧ FRC tx a a' t t' := by
    intro a' t' pl' w' g1 g2 g3 g4 g5 g6 g7 g8 g9
    refine ⟨a', t', pl', w', g1, ⟨g2, g3, g4, ⟨g5.1, g5.2, m3, by omega⟩, g6, fun j hj => ?_⟩, g9⟩
    rcases Nat.lt_or_ge j i with z | z
    · rw [va_ne _ _ (by omega), va_ne _ _ (by omega), va_ne _ _ (by omega), va_ne _ _ (by omega)]
      exact MRW_up (rows j z) (g7 _ (by omega) (by omega) (by omega) (by omega) (by omega)) (g7 _ (by omega) (by omega) (by omega) (by omega) (by omega)) (g7 _ (by omega) (by omega) (by omega) (by omega) (by omega))
    · rw [show j = i by omega, va_same, va_same, va_same, va_same]; exact g8
  have rx1 : 681 * tx + 3 * i + 1 = x := by omega
  have rx2 : 681 * tx + 3 * i + 2 = x + 1 := by omega
  have rx3 : 681 * tx + 3 * i + 3 = x + 2 := by omega
  rcases O with ⟨o1, q1, o2, o3, o4, rfl, o6, o7⟩ | ⟨o1, o2, q1, o3, o4, rfl, rfl⟩
  · have B : SB tk ts tv te T len tx (K' == 1) a1 (va_up (va_up t x (nI K')) (x + 1) (nI c.length)) w1 (p + 1) c := by
      refine ⟨⟨f13, f12, ?_, f4⟩, atM_fr L N hx hT (t := t) (fun j hj => by rw [va_ne _ _ (by omega), va_ne _ _ (by omega)]) hat, r2, by omega, r3, m3⟩
      rw [f14]
      have : K' = 0 ∨ K' = 1 := by omega
      rcases this with z | z <;> rw [z] <;> decide
    obtain ⟨a2, t2, pl2, w2, s1, s2, s3⟩ := m_sumY L N hx hT (pl := pl) (D := D - 3) (by omega) B (top_ok o2 o3 c)
    obtain ⟨⟨s13, s12, s14, s4⟩, sat, sX, sl1, sl2, sl3⟩ := s2
    have et2 : va_up t2 (x + 2) (nI (c ++ m).length) (681 * tx) = nI i := by
      rw [va_ne _ _ (by omega), s3.2 _ (by omega), va_ne _ _ (by omega), va_ne _ _ (by omega)]; exact et
    obtain ⟨a3, w3, u1, u2, u3, u4⟩ := m_fin L N hx hT (D := D - 1) (by omega) (pl := pl2) (t := va_up t2 (x + 2) (nI (c ++ m).length)) s12 s4 et2 sX sl2 o4
    have eb : F_X11_body (D - 1) (nI K') (nI x) (MD h a1 (va_up t x (nI K')) pl w1) = some (.int 0, MD h a2 (va_up t2 (x + 2) (nI (c ++ m).length)) pl2 w2) := by
      obtain ⟨d, rfl⟩ : ∃ d, D = d + 3 := ⟨D - 3, by omega⟩
      show F_X11_body (d + 2) (nI K') (nI x) (MD h a1 (va_up t x (nI K')) pl w1) = _
      rw [S_X11_body (lay_MD L _ _ _ _), if_neg (by rw [nIe (by omega) (by decide)]; show ¬ K' = 2; omega), if_neg (by rw [nIe (by omega) (by decide)]; show ¬ K' = 3; omega), if_neg (by rw [nIe (by omega) (by decide)]; show ¬ K' = 4; omega), if_neg (by rw [nIe (by omega) (by decide)]; show ¬ K' = 5; omega), if_neg (by rw [nIe (by omega) (by decide)]; show ¬ K' = 6; omega), if_neg (by rw [nIe (by omega) (by decide)]; show ¬ K' = 7; omega), S_X11_lawClause (lay_MD L _ _ _ _), nI_1, ck_pos ((ib_nIi (by omega)).mpr (by omega)), ix_nI (by omega), gI_MD67, f13, sI_MD70, lt_def, show F_X11_summed d (MD h a1 (va_up (va_up t x (nI K')) (x + 1) (nI c.length)) pl w1) = _ from s1, cI_some, nIb, ck_pos ((ib_nIi (by show x + 2 < 2 ^ 31; omega)).mpr (by show x + 2 < 2724; omega)), ix_nI (by show x + 2 < 2 ^ 31; omega), gI_MD67, s13, sI_MD70, lt_def, cI_some]
    refine mk a3 (va_up (va_up t2 (x + 2) (nI (c ++ m).length)) (681 * tx) (nI (i + 1))) pl2 w3 ?_ ⟨?_, ?_, ?_, ?_⟩ ?_ u2 ⟨by omega, by omega⟩ (va_same _ _ _) (fun j j1 j2 j3 j4 j5 => ?_) ⟨?_, fun _ => ⟨c, [], by rw [List.append_nil], ?_, ?_⟩, fun z => by omega, fun z => by omega⟩ ⟨fun k hk => ?_, fun j hj => ?_⟩
    · rw [r1, eb, cI_some]; exact u1
    · rw [u4 13 (by decide) (by decide) (by decide) (by decide)]; exact s13
    · rw [u4 12 (by decide) (by decide) (by decide) (by decide)]; exact s12
    · rw [u4 4 (by decide) (by decide) (by decide) (by decide)]; exact s4
    · rw [u4 19 (by decide) (by decide) (by decide) (by decide), s3.1 19 (by unfold kpY; decide)]; exact f19
    · exact atM_fr L N hx hT (t := t2) (fun j hj => by rw [va_ne _ _ (by omega), va_ne _ _ (by omega)]) sat
    · rw [va_ne _ _ (by omega), va_ne _ _ j5, s3.2 j (by omega), va_ne _ _ j4, va_ne _ _ j3]
    · rw [rx1, va_ne _ _ (by omega), va_ne _ _ (by omega), s3.2 x (by omega), va_ne _ _ (by omega), va_same]
    · rw [rx2, va_ne _ _ (by omega), va_ne _ _ (by omega), s3.2 (x + 1) (by omega), va_same]
    · rw [rx3, va_ne _ _ (by omega), va_same, List.length_append]
    · rw [u4 k hk.1 hk.2.1 hk.2.2.1 hk.2.2.2.1, (FRM_C s3).1 k hk, r5 k hk]
    · rw [va_ne _ _ (by omega), va_ne _ _ (by omega), (FRM_C s3).2 j hj, va_ne _ _ (by omega), va_ne _ _ (by omega)]
  · obtain ⟨a2, t2, w2, s1, s2, s3, s4, s5, s6, s7⟩ := m_bodO L N hx hT (t := va_up t x (nI K')) (pl := pl) (x := x) r2 f4 r3 (D := D - 1) (by omega) (by omega) o3
    have g12 : a2 12 = nI (681 * tx) := by rw [s4 12 (by decide) (by decide) (by decide) (by decide)]; exact f12
    have g4 : a2 4 = nI len := by rw [s4 4 (by decide) (by decide) (by decide) (by decide)]; exact f4
    have et2 : t2 (681 * tx) = nI i := by rw [s5 _ (by omega) (by omega), va_ne _ _ (by omega)]; exact et
    obtain ⟨a3, w3, u1, u2, u3, u4⟩ := m_fin L N hx hT (D := D - 1) (by omega) (pl := pl) g12 g4 et2 s2 s3 o4
    have hq : p + 1 < q1 := by rcases o3 with ⟨-, z | z⟩ <;> omega
    refine mk a3 (va_up t2 (681 * tx) (nI (i + 1))) pl w3 ?_ ⟨?_, ?_, ?_, ?_⟩ ?_ u2 ⟨by rw [List.append_nil]; omega, by omega⟩ (va_same _ _ _) (fun j j1 j2 j3 j4 j5 => ?_) ⟨?_, fun z => by omega, fun _ => ?_, fun z => ?_⟩ ⟨fun k hk => ?_, fun j hj => ?_⟩
    · rw [r1, s1, cI_some]; exact u1
    · rw [u4 13 (by decide) (by decide) (by decide) (by decide), s4 13 (by decide) (by decide) (by decide) (by decide), List.append_nil]; exact f13
    · rw [u4 12 (by decide) (by decide) (by decide) (by decide)]; exact g12
    · rw [u4 4 (by decide) (by decide) (by decide) (by decide)]; exact g4
    · rw [u4 19 (by decide) (by decide) (by decide) (by decide), s4 19 (by decide) (by decide) (by decide) (by decide)]; exact f19
    · rw [List.append_nil]
      exact atM_fr L N hx hT (t := t) (fun j hj => by rw [va_ne _ _ (by omega), s5 j (by omega) (by omega), va_ne _ _ (by omega)]) hat
    · rw [va_ne _ _ (by omega), s5 j j4 j5, va_ne _ _ j3]
    · rw [rx1, va_ne _ _ (by omega), s5 x (by omega) (by omega), va_same]
    · rw [rx2, va_ne _ _ (by omega)]; exact s6
    · rw [rx3, va_ne _ _ (by omega)]; exact s7 z
    · rw [u4 k hk.1 hk.2.1 hk.2.2.1 hk.2.2.2.1, s4 k hk.1 hk.2.1 hk.2.2.1 hk.2.2.2.1, r5 k hk]
    · rw [va_ne _ _ (by omega), s5 j (by omega) (by omega), va_ne _ _ (by omega)]
theorem m_clN {h : MH} (L : lay h) {tk : Nat → Nat} {ts : Nat → Nat} {tv : Nat → Nat} {te : Nat → Nat} {T : Nat} {len : Nat} {tx : Nat} (N : NXT h tk ts tv te T len) (hx : tx < 4) (hT : tk T = 259) {a t pl : Nat → Int32} {w : Nat → Int64} {p q i fl : Nat} {c : List (Nat × Nat)} {K F S : Nat → Nat} {ms : Nat → List (Nat × Nat)} {b0 b1 : Bool} (M : MCS tk ts tv te T len tx a t w p i c K F S ms b0 b1) (hf : 1 ≤ fl ∧ fl ≤ 6) (O : CLN tk tv b0 b1 i p fl q) {D : Nat} (hD : 24 ≤ D) : ∃ a' t' pl' w', F_X11_clause D (MD h a t pl w) = some (.int (nI fl), MD h a' t' pl' w') ∧ LX tk ts tv te a' w' q ∧ FRC tx a a' t t' := by
  have M0 := M
  have hnz : ¬ nI fl = 0 := by rw [show (0 : Int32) = nI 0 from rfl, nI_eq (by omega) (by omega)]; omega
  obtain ⟨⟨e13, e12, e4, e19⟩, hat, X, ⟨m1, m2, m3, m4⟩, et, rows⟩ := M
  have LM := lay_MD L a t pl w
  rcases O with ⟨o1, rfl, rfl⟩ | ⟨o1, rfl, rfl⟩ | ⟨K', hK, hK7, ⟨t0, t1⟩, O⟩
  · refine ⟨a, t, pl, w, ?_, X, FRC_refl _ _ _⟩
    obtain ⟨d, rfl⟩ : ∃ d, D = d + 1 := ⟨D - 1, by omega⟩
    rw [S_X11_clause LM, m_sort L N hx hT X (by omega), if_neg o1, cI_some, if_pos (by decide)]
    rfl
  · refine ⟨a, t, pl, w, ?_, X, FRC_refl _ _ _⟩
    obtain ⟨d, rfl⟩ : ∃ d, D = d + 1 := ⟨D - 1, by omega⟩
    have k : ∃ K', tk q = 300 + K' ∧ K' ≤ 1 ∧ (if K' = 0 then b0 else b1) = true := by
      rcases o1 with ⟨z1, z2⟩ | ⟨z1, z2⟩
      · exact ⟨0, z1, by omega, by rw [if_pos rfl]; exact z2⟩
      · exact ⟨1, z1, by omega, by rw [if_neg (by decide)]; exact z2⟩
    obtain ⟨K', k1, k2, k3⟩ := k
    have ms' : (if 300 ≤ tk q ∧ tk q ≤ 307 then nI (tk q - 300) else -1) = nI K' := by rw [if_pos (by omega), k1, show 300 + K' - 300 = K' by omega]
    rw [S_X11_clause LM, m_sort L N hx hT X (by omega), ms', cI_some, if_neg (nIz (by omega)), if_pos (by rw [nIL (by omega) (by decide)]; exact k2), gI_MD67, e19, has_ob LM (by omega) b0 b1 k2, cI_some, if_pos k3, if_neg (by decide)]
    rfl
  rcases O with ⟨o1, rfl, rfl⟩ | ⟨o1, O⟩
  · refine ⟨a, t, pl, w, ?_, X, FRC_refl _ _ _⟩
    obtain ⟨d, rfl⟩ : ∃ d, D = d + 1 := ⟨D - 1, by omega⟩
    have ms' : (if 300 ≤ tk q ∧ tk q ≤ 307 then nI (tk q - 300) else -1) = nI K' := by rw [if_pos (by omega), hK, show 300 + K' - 300 = K' by omega]
    have e17 : F_X11_clause (d + 1) (MD h a t pl w) = G_X11_clause_17 d (nI K') (MD h a t pl w) := by
      rw [S_X11_clause LM, m_sort L N hx hT X (by omega), ms', cI_some, if_neg (nIz (by omega))]
      by_cases z : K' ≤ 1
      · have hb : ¬ (if K' = 0 then b0 else b1) = true := by
          by_cases y : K' = 0
          · rw [if_pos y]; exact fun w => t0 ⟨y, w⟩
          · rw [if_neg y]; exact fun w => t1 ⟨by omega, w⟩
        rw [if_pos (by rw [nIL (by omega) (by decide)]; exact z), gI_MD67, e19, has_ob LM (by omega) b0 b1 z, cI_some, if_neg hb, if_pos rfl]
      · rw [if_neg (by rw [nIL (by omega) (by decide)]; exact z)]
    rw [e17, S_X11_clause_17 LM, gI_MD67, e12, ck_pos ((ib_nIi (by omega)).mpr (by omega)), ix_nI (by omega), gI_MD70, et, lt_def, if_pos (by rw [o1]; rfl)]
    rfl
  obtain ⟨a1, w1, r1, r2, r3, ⟨f13, f12, f4, f14, f19⟩, r5⟩ := m_cl39 L N hx hT (pl := pl) M0 o1 hK hK7 t0 t1 (D := D) (by omega)
  obtain ⟨x, ex⟩ : ∃ x, x = 681 * tx + 1 + 3 * i := ⟨_, rfl⟩
  rw [← ex] at r1
  have nz : ∀ f, 1 ≤ f → f < 100 → ¬ nI f = 0 := fun f h1 h2 => by rw [show (0 : Int32) = nI 0 from rfl, nI_eq (by omega) (by omega)]; omega
  rcases O with ⟨o2, O⟩ | ⟨o2, O⟩
  · have B : SB tk ts tv te T len tx (K' == 1) a1 (va_up (va_up t x (nI K')) (x + 1) (nI c.length)) w1 (p + 1) c := by
      refine ⟨⟨f13, f12, ?_, f4⟩, atM_fr L N hx hT (t := t) (fun j hj => by rw [va_ne _ _ (by omega), va_ne _ _ (by omega)]) hat, r2, by omega, r3, m3⟩
      rw [f14]
      have : K' = 0 ∨ K' = 1 := by omega
      rcases this with z | z <;> rw [z] <;> decide
    have eb : ∀ (y : Int32) (a2 t2 pl2 : Nat → Int32) (w2 : Nat → Int64) (s : Int32), a2 13 = s → F_X11_summed (D - 3) (MD h a1 (va_up (va_up t x (nI K')) (x + 1) (nI c.length)) pl w1) = some (.int y, MD h a2 t2 pl2 w2) → F_X11_body (D - 1) (nI K') (nI x) (MD h a1 (va_up t x (nI K')) pl w1) = some (.int y, MD h a2 (va_up t2 (x + 2) s) pl2 w2) := by
      intro y a2 t2 pl2 w2 s hs s1
      obtain ⟨d, rfl⟩ : ∃ d, D = d + 3 := ⟨D - 3, by omega⟩
      show F_X11_body (d + 2) (nI K') (nI x) (MD h a1 (va_up t x (nI K')) pl w1) = _
      rw [S_X11_body (lay_MD L _ _ _ _), if_neg (by rw [nIe (by omega) (by decide)]; show ¬ K' = 2; omega), if_neg (by rw [nIe (by omega) (by decide)]; show ¬ K' = 3; omega), if_neg (by rw [nIe (by omega) (by decide)]; show ¬ K' = 4; omega), if_neg (by rw [nIe (by omega) (by decide)]; show ¬ K' = 5; omega), if_neg (by rw [nIe (by omega) (by decide)]; show ¬ K' = 6; omega), if_neg (by rw [nIe (by omega) (by decide)]; show ¬ K' = 7; omega), S_X11_lawClause (lay_MD L _ _ _ _), nI_1, ck_pos ((ib_nIi (by omega)).mpr (by omega)), ix_nI (by omega), gI_MD67, f13, sI_MD70, lt_def, show F_X11_summed d (MD h a1 (va_up (va_up t x (nI K')) (x + 1) (nI c.length)) pl w1) = _ from s1, cI_some, nIb, ck_pos ((ib_nIi (by show x + 2 < 2 ^ 31; omega)).mpr (by show x + 2 < 2724; omega)), ix_nI (by show x + 2 < 2 ^ 31; omega), gI_MD67, hs, sI_MD70, lt_def, cI_some]
    rcases O with O | ⟨m, o3, o4, o5, rfl⟩
    · obtain ⟨a2, t2, pl2, w2, s1, s2, s3⟩ := m_sumN L N hx hT (pl := pl) (D := D - 3) (by omega) (f := fl) (by omega) B (top_no O c)
      refine ⟨a2, va_up t2 (x + 2) (a2 13), pl2, w2, ?_, s2, ⟨fun k hk => ?_, fun j hj => ?_⟩⟩
      · rw [r1, eb _ _ _ _ _ _ rfl s1, cI_some, if_neg hnz]
      · rw [(FRM_C s3).1 k hk, r5 k hk]
      · rw [va_ne _ _ (by omega), (FRM_C s3).2 j hj, va_ne _ _ (by omega), va_ne _ _ (by omega)]
    · obtain ⟨a2, t2, pl2, w2, s1, s2, s3⟩ := m_sumY L N hx hT (pl := pl) (D := D - 3) (by omega) B (top_ok o3 o4 c)
      obtain ⟨⟨s13, s12, s14, s4⟩, sat, sX, sl1, sl2, sl3⟩ := s2
      have et2 : va_up t2 (x + 2) (a2 13) (681 * tx) = nI i := by
        rw [va_ne _ _ (by omega), s3.2 _ (by omega), va_ne _ _ (by omega), va_ne _ _ (by omega)]; exact et
      have u := m_finN L N hx hT (D := D - 1) (pl := pl2) (t := va_up t2 (x + 2) (a2 13)) s12 et2 sX o5
      refine ⟨a2, va_up (va_up t2 (x + 2) (a2 13)) (681 * tx) (nI (i + 1)), pl2, w2, ?_, sX, ⟨fun k hk => ?_, fun j hj => ?_⟩⟩
      · rw [r1, eb _ _ _ _ _ _ rfl s1, cI_some]; exact u
      · rw [(FRM_C s3).1 k hk, r5 k hk]
      · rw [va_ne _ _ (by omega), va_ne _ _ (by omega), (FRM_C s3).2 j hj, va_ne _ _ (by omega), va_ne _ _ (by omega)]
  · rcases O with O | ⟨F', S', o3, o4, rfl⟩
    · obtain ⟨a2, t2, w2, s1, s2, s3, s4⟩ := m_bodN L N hx hT (t := va_up t x (nI K')) (pl := pl) (x := x) ⟨o2, hK7⟩ r2 f4 r3 (D := D - 1) (by omega) (by omega) O
      refine ⟨a2, t2, pl, w2, ?_, s2, ⟨fun k hk => ?_, fun j hj => ?_⟩⟩
      · rw [r1, s1, cI_some, if_neg hnz]
      · rw [s3 k hk.1 hk.2.1 hk.2.2.1 hk.2.2.2.1, r5 k hk]
      · rw [s4 j (by omega), va_ne _ _ (by omega)]
    · obtain ⟨a2, t2, w2, s1, s2, s3, s4, s5, s6, s7⟩ := m_bodO L N hx hT (t := va_up t x (nI K')) (pl := pl) (x := x) r2 f4 r3 (D := D - 1) (by omega) (by omega) o3
      have g12 : a2 12 = nI (681 * tx) := by rw [s4 12 (by decide) (by decide) (by decide) (by decide)]; exact f12
      have et2 : t2 (681 * tx) = nI i := by rw [s5 _ (by omega) (by omega), va_ne _ _ (by omega)]; exact et
      have u := m_finN L N hx hT (D := D - 1) (pl := pl) g12 et2 s2 o4
      refine ⟨a2, va_up t2 (681 * tx) (nI (i + 1)), pl, w2, ?_, s2, ⟨fun k hk => ?_, fun j hj => ?_⟩⟩
      · rw [r1, s1, cI_some]; exact u
      · rw [s4 k hk.1 hk.2.1 hk.2.2.1 hk.2.2.2.1, r5 k hk]
      · rw [va_ne _ _ (by omega), s5 j (by omega) (by omega), va_ne _ _ (by omega)]
end MCM
