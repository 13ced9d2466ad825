--deps:19.lay 21.facts 22.00.names 22.01.eq 22.02.eq 22.03.eq 22.04.eq 22.05.eq 22.06.eq 22.07.eq 22.08.eq 22.09.eq 22.10.eq 22.11.eq 22.12.eq 22.13.eq 22.14.eq 22.15.eq 22.16.eq 22.17.eq 22.18.eq 22.19.eq 22.20.eq 22.21.eq 22.22.eq 22.23.eq 23.num 24.town 25.evc 26.evm 27.law 28.says 29.inv 71.yard 72.yard2 73.gx 74.gx2 75.gx3 76.reader 79.mtok 80.mpile 81.myard 82.msum
/-! THE REFERENCE'S READER: behind a one; a whole sum -/
set_option linter.unusedSectionVars false
theorem cmpO_bq {t : Nat} (h : ¬ cmpO t = 0) : 10 ≤ cmpO t ∧ cmpO t ≤ 15 := by
  unfold cmpO at *
  split
  · omega
  · split
    · omega
    · split
      · omega
      · split
        · omega
        · split
          · omega
          · split
            · omega
            · rename_i h1 h2 h3 h4 h5 h6
              rw [if_neg h1, if_neg h2, if_neg h3, if_neg h4, if_neg h5, if_neg h6] at h
              exact absurd rfl h
theorem bt_kc (π : List Nat) (t : Nat) : bt π t = 0 ∨ (6 ≤ bt π t ∧ bt π t ≤ 15) ∨ bt π t = 21 ∨ bt π t = 22 := by
  unfold bt
  by_cases c1 : t = 43
  · rw [if_pos c1]; decide
  rw [if_neg c1]
  by_cases c2 : t = 45
  · rw [if_pos c2]; decide
  rw [if_neg c2]
  by_cases c3 : t = 42
  · rw [if_pos c3]; decide
  rw [if_neg c3]
  by_cases c4 : t = 47
  · rw [if_pos c4]; decide
  rw [if_neg c4]
  by_cases c5 : opw π = 41
  · rw [if_pos c5]
    by_cases c6 : cmpd π = true
    · rw [if_pos c6]
      by_cases c7 : t = 322
      · rw [if_pos c7]; decide
      rw [if_neg c7]
      by_cases c8 : t = 321
      · rw [if_pos c8]; decide
      rw [if_neg c8]; decide
    · rw [if_neg c6]
      by_cases c7 : cmpO t = 0
      · exact Or.inl c7
      · have := cmpO_bq c7
        omega
  · rw [if_neg c5]; decide
theorem bt_259 (π : List Nat) : bt π 259 = 0 := by
  unfold bt
  rw [if_neg (by decide), if_neg (by decide), if_neg (by decide), if_neg (by decide)]
  split
  · split
    · rfl
    · rfl
  · rfl
theorem pt_259 (π : List Nat) : pt π 259 = 0 := by
  unfold pt
  split
  · rfl
  · split
    · rw [if_neg (by simp)]
    · split
      · rfl
      · split <;> rfl
theorem pt_c (π : List Nat) (t : Nat) (h : ¬ pt π t = 0) : (pt π t = 1 ∨ pt π t = 42 ∨ pt π t = 43) ∧ ¬ opw π = 0 := by
  unfold pt at *
  by_cases c1 : opw π = 40
  · rw [if_pos c1] at *
    split at h
    · rw [if_pos (by assumption)]; omega
    · exact absurd rfl h
  rw [if_neg c1] at *
  by_cases c2 : opw π = 41
  · rw [if_pos c2] at *
    split at h
    · rw [if_pos (by assumption)]; omega
    · exact absurd rfl h
  rw [if_neg c2] at *
  by_cases c3 : opw π = 42
  · rw [if_pos c3] at *
    split at h
    · rw [if_pos (by assumption)]; omega
    · exact absurd rfl h
  rw [if_neg c3] at *
  by_cases c4 : opw π = 43
  · rw [if_pos c4] at *
    split at h
    · rw [if_pos (by assumption)]; omega
    · exact absurd rfl h
  rw [if_neg c4] at h
  exact absurd rfl h
theorem stel1_op : ∀ (π : List Nat) (o : Nat) (c : List (Nat × Nat)), ¬ opw π = 0 → (stel 1 π o c).1 = opw π :: (stel 1 π o c).1.tail ∧ 40 ≤ opw π := by
  intro π
  induction π with
  | nil => intro o c h; exact absurd rfl h
  | cons k π ih =>
    intro o c h
    rw [opw] at h ⊢
    by_cases c1 : 40 ≤ k
    · rw [if_pos c1] at h ⊢
      have : ¬ 1 ≤ rk k := by unfold rk; rw [if_pos c1]; omega
      rw [stel, if_neg this]
      exact ⟨rfl, c1⟩
    · rw [if_neg c1] at h ⊢
      have : 1 ≤ rk k := by
        unfold rk
        rw [if_neg c1]
        repeat (first | omega | split)
      rw [stel, if_pos this]
      exact ih _ _ h
def BHN (h : MH) (tk ts tv te : Nat → Nat) (T len tx : Nat) (sl : Bool) (a t pl : Nat → Int32) (w : Nat → Int64) (E : Option (Value × MH)) (r : YS ⊕ Nat) : Prop := (∀ s', r = .inl s' → ∃ a' t' pl' w', E = some (.int 1, MD h a' t' pl' w') ∧ YV tk ts tv te T len tx sl a' t' pl' w' s' ∧ FRM tx a a' t t') ∧ (∀ f, r = .inr f → E = some (.int 0, MD h a t pl w))
section MBH
theorem m_bh14 {h : MH} (L : lay h) {tk : Nat → Nat} {ts : Nat → Nat} {tv : Nat → Nat} {te : Nat → Nat} {T : Nat} {len : Nat} {tx : Nat} {sl : Bool} (N : NXT h tk ts tv te T len) (hx : tx < 4) {k l : Nat} (hk : 6 ≤ k ∧ k ≤ 15 ∨ k = 21 ∨ k = 22) (h1 : 1 ≤ l) (h7 : l ≤ 7) {D : Nat} (hD : 12 ≤ D) {a t pl : Nat → Int32} {w : Nat → Int64} {π : List Nat} {o p : Nat} {c : List (Nat × Nat)} (Y : YV tk ts tv te T len tx sl a t pl w (π, o, true, p, c)) (hl : π.length ≤ 60) (hp : p < T) : ∃ a' t' pl' w', G_X11_behindOne_14 D (nI k) (nI l) (MD h a t pl w) = some (.int 1, MD h a' t' pl' w') ∧ YV tk ts tv te T len tx sl a' t' pl' w' (k :: (stel l π o c).1, (stel l π o c).2.1, false, p + 1, (stel l π o c).2.2) ∧ FRM tx a a' t t' := by
  obtain ⟨S, ⟨e18, e14, e4⟩, X, b4, b5, b6, b7⟩ := Y
  simp only at S b4 b5 b7 X e18
  obtain ⟨a1, t1, s1, s2, s3⟩ := m_settl L hx (w := w) S (D := D) (by omega) h1 h7
  have sl2 := stel_len2 l π o c
  have slen := stl_len l π o c
  obtain ⟨⟨f16, f17, f13, f12⟩, P1, hat1, hcO1, q1, q2, q3⟩ := s2
  obtain ⟨a2, w2, r1, r2, r3⟩ := N D (va_up (va_up a1 16 (nI ((stel l π o c).1.length + 1))) 18 0) t1 (va_up pl (stel l π o c).1.length (nI k)) w p (by omega) hp (by rw [va_ne _ _ (by decide), va_ne _ _ (by decide), s3.1 4 (by decide) (by decide) (by decide)]; exact e4) (LX_eq X (by rw [va_ne _ _ (by decide), va_ne _ _ (by decide), s3.1 7 (by decide) (by decide) (by decide)]) (by rw [va_ne _ _ (by decide), va_ne _ _ (by decide), s3.1 8 (by decide) (by decide) (by decide)]) (by rw [va_ne _ _ (by decide), va_ne _ _ (by decide), s3.1 9 (by decide) (by decide) (by decide)]) (by rw [va_ne _ _ (by decide), va_ne _ _ (by decide), s3.1 10 (by decide) (by decide) (by decide)]))
  have v : ∀ k, ¬ k = 7 → ¬ k = 8 → ¬ k = 9 → ¬ k = 10 → ¬ k = 16 → ¬ k = 18 → a2 k = a1 k := fun k k1 k2 k3 k4 k5 k6 => by rw [r3 k k1 k2 k3 k4, va_ne _ _ k6, va_ne _ _ k5]
  refine ⟨a2, t1, _, w2, ?_, ⟨⟨⟨?_, ?_, ?_, ?_⟩, ⟨va_same _ _ _, by omega, PIL_up P1 (Nat.le_refl _)⟩, hat1, ?_, ?_, ?_, q3⟩, ⟨?_, ?_, ?_⟩, r2, ?_, ?_, b6, ?_⟩, ?_⟩
  · rw [S_X11_behindOne_14 (lay_MD L _ _ _ _), s1, cV_some, gI_MD67, f16, ck_pos ((ib_nIi (by omega)).mpr (by omega)), ix_nI (by omega), sI_MD72, lt_def, gI_MD67, f16, nI_1, sI_MD67, lt_def, sI_MD67, lt_def, r1, cV_some]
  · rw [r3 16 (by decide) (by decide) (by decide) (by decide), va_ne _ _ (by decide)]; exact va_same _ _ _
  · rw [v 17 (by decide) (by decide) (by decide) (by decide) (by decide) (by decide)]; exact f17
  · rw [v 13 (by decide) (by decide) (by decide) (by decide) (by decide) (by decide)]; exact f13
  · rw [v 12 (by decide) (by decide) (by decide) (by decide) (by decide) (by decide)]; exact f12
  · show (stel l π o c).2.1 = cO (k :: (stel l π o c).1)
    have : ¬ rk k = 7 := by
      rcases hk with z | z | z
      · unfold rk
        rw [if_neg (by omega), if_neg (by omega), if_neg (by omega), if_neg (by omega)]
        split
        · omega
        · split
          · omega
          · rw [if_pos (by omega)]; omega
      · rw [z]; decide
      · rw [z]; decide
    rw [cO, if_neg (by omega), Nat.zero_add]
    exact hcO1
  · show (stel l π o c).2.2.length + (k :: (stel l π o c).1).length ≤ 300
    rw [List.length_cons]; omega
  · show (k :: (stel l π o c).1).length ≤ 160
    rw [List.length_cons]; omega
  · rw [r3 18 (by decide) (by decide) (by decide) (by decide)]; exact va_same _ _ _
  · rw [v 14 (by decide) (by decide) (by decide) (by decide) (by decide) (by decide), s3.1 14 (by decide) (by decide) (by decide)]; exact e14
  · rw [v 4 (by decide) (by decide) (by decide) (by decide) (by decide) (by decide), s3.1 4 (by decide) (by decide) (by decide)]; exact e4
  · show (stel l π o c).2.2.length + (k :: (stel l π o c).1).length ≤ p + 1
    rw [List.length_cons]; omega
  · show p + 1 ≤ T
    omega
  · show (stel l π o c).2.1 ≤ 8
    omega
  · exact FRM_tr (FRS_M s3) ⟨fun k hk => v k hk.1 hk.2.1 hk.2.2.1 hk.2.2.2.1 hk.2.2.2.2.2.1 hk.2.2.2.2.2.2.2, fun _ _ => rfl⟩
/-- settle 1 and the next token -/
theorem m_s1n {h : MH} (L : lay h) {tk : Nat → Nat} {ts : Nat → Nat} {tv : Nat → Nat} {te : Nat → Nat} {T : Nat} {len : Nat} {tx : Nat} {sl : Bool} (N : NXT h tk ts tv te T len) (hx : tx < 4) {D : Nat} (hD : 12 ≤ D) {a t pl : Nat → Int32} {w : Nat → Int64} {π : List Nat} {o p : Nat} {c : List (Nat × Nat)} (Y : YV tk ts tv te T len tx sl a t pl w (π, o, true, p, c)) (hp : p < T) (K : MH → Option (Value × MH)) : ∃ a' t' w', cV (F_X11_settle D 1 (MD h a t pl w)) (fun h7 => cV (F_X11_nextToken D h7) K) = K (MD h a' t' pl w') ∧ SV tx a' t' pl (stel 1 π o c).1 (stel 1 π o c).2.1 (stel 1 π o c).2.2 ∧ LX tk ts tv te a' w' (p + 1) ∧ (a' 14 = a 14 ∧ a' 4 = a 4 ∧ a' 18 = a 18) ∧ FRM tx a a' t t' := by
  obtain ⟨S, ⟨e18, e14, e4⟩, X, b4, b5, b6, b7⟩ := Y
  simp only at S b4 b5 b7 X e18
  obtain ⟨a1, t1, s1, s2, s3⟩ := m_settl L hx (w := w) S (D := D) (l := 1) (by omega) (by omega) (by omega)
  obtain ⟨⟨f16, f17, f13, f12⟩, P1, hat1, hcO1, q1, q2, q3⟩ := s2
  obtain ⟨a2, w2, r1, r2, r3⟩ := N D a1 t1 pl w p (by omega) hp (by rw [s3.1 4 (by decide) (by decide) (by decide)]; exact e4) (LX_eq X (s3.1 7 (by decide) (by decide) (by decide)) (s3.1 8 (by decide) (by decide) (by decide)) (s3.1 9 (by decide) (by decide) (by decide)) (s3.1 10 (by decide) (by decide) (by decide)))
  refine ⟨a2, t1, w2, ?_, ⟨⟨?_, ?_, ?_, ?_⟩, P1, hat1, hcO1, q1, q2, q3⟩, r2, ⟨?_, ?_, ?_⟩, FRM_tr (FRS_M s3) ⟨fun k hk => r3 k hk.1 hk.2.1 hk.2.2.1 hk.2.2.2.1, fun _ _ => rfl⟩⟩
  · rw [show (1 : Int32) = nI 1 from rfl, s1, cV_some, r1, cV_some]
  · rw [r3 16 (by decide) (by decide) (by decide) (by decide)]; exact f16
  · rw [r3 17 (by decide) (by decide) (by decide) (by decide)]; exact f17
  · rw [r3 13 (by decide) (by decide) (by decide) (by decide)]; exact f13
  · rw [r3 12 (by decide) (by decide) (by decide) (by decide)]; exact f12
  · rw [r3 14 (by decide) (by decide) (by decide) (by decide), s3.1 14 (by decide) (by decide) (by decide)]
  · rw [r3 4 (by decide) (by decide) (by decide) (by decide), s3.1 4 (by decide) (by decide) (by decide)]
  · rw [r3 18 (by decide) (by decide) (by decide) (by decide), s3.1 18 (by decide) (by decide) (by decide)]
theorem m_behind {h : MH} (L : lay h) {tk : Nat → Nat} {ts : Nat → Nat} {tv : Nat → Nat} {te : Nat → Nat} {T : Nat} {len : Nat} {tx : Nat} {sl : Bool} (N : NXT h tk ts tv te T len) (hx : tx < 4) (hT : tk T = 259) {D : Nat} (hD : 14 ≤ D) {a t pl : Nat → Int32} {w : Nat → Int64} {π : List Nat} {o p : Nat} {c : List (Nat × Nat)} (Y : YV tk ts tv te T len tx sl a t pl w (π, o, true, p, c)) (hl : π.length ≤ 60) : BHN h tk ts tv te T len tx sl a t pl w (F_X11_behindOne D (MD h a t pl w)) (ynx tk tv sl (π, o, true, p, c)) := by
  obtain ⟨d, rfl⟩ : ∃ d, D = d + 1 := ⟨D - 1, by omega⟩
  have X : LX tk ts tv te a w p := Y.2.2.1
  have P : PIL pl π := Y.1.2.1
  have e16 : a 16 = nI π.length := Y.1.1.1
  have hpT : p ≤ T := Y.2.2.2.2.1
  have hlt : ¬ tk p = 259 → p < T := fun z => by
    rcases Nat.lt_or_ge p T with q | q
    · exact q
    · have : p = T := by omega
      subst this
      exact absurd hT z
  have LM := lay_MD L a t pl w
  have bk := bt_kc π (tk p)
  by_cases c0 : bt π (tk p) = 0
  rotate_left
  · have hp : p < T := hlt (fun z => c0 (by rw [z]; exact bt_259 π))
    have hr : 1 ≤ (if rk (bt π (tk p)) = 4 then 5 else rk (bt π (tk p))) ∧ (if rk (bt π (tk p)) = 4 then 5 else rk (bt π (tk p))) ≤ 7 ∧ rk (bt π (tk p)) ≤ 7 := by
      have h7 : ∀ k, rk k ≤ 7 := fun k => by unfold rk; repeat (first | omega | split)
      have h1 : bt π (tk p) < 40 → 1 ≤ rk (bt π (tk p)) := fun z => by
        unfold rk
        rw [if_neg (by omega)]
        repeat (first | omega | split)
      have := h7 (bt π (tk p))
      have := h1 (by omega)
      split <;> omega
    obtain ⟨a', t', pl', w', r1, r2, r3⟩ := m_bh14 L N hx (sl := sl) (k := bt π (tk p)) (l := if rk (bt π (tk p)) = 4 then 5 else rk (bt π (tk p))) (by omega) hr.1 hr.2.1 (D := d) (by omega) Y hl hp
    have ey : ynx tk tv sl (π, o, true, p, c) = .inl (bt π (tk p) :: (stel (if rk (bt π (tk p)) = 4 then 5 else rk (bt π (tk p))) π o c).1, (stel (if rk (bt π (tk p)) = 4 then 5 else rk (bt π (tk p))) π o c).2.1, false, p + 1, (stel (if rk (bt π (tk p)) = 4 then 5 else rk (bt π (tk p))) π o c).2.2) := by
      unfold ynx
      simp only
      rw [if_pos trivial, if_neg c0]
    have ee : F_X11_behindOne (d + 1) (MD h a t pl w) = G_X11_behindOne_14 d (nI (bt π (tk p))) (nI (if rk (bt π (tk p)) = 4 then 5 else rk (bt π (tk p)))) (MD h a t pl w) := by
      rw [S_X11_behindOne LM, m_bt L X P (by omega) e16 (by omega), cI_some]
      unfold bO
      rw [if_neg c0, if_neg (nIz (by omega)), m_rnk LM (by omega) (by omega), cI_some]
      by_cases c4 : rk (bt π (tk p)) = 4
      · rw [if_pos (by rw [c4]; rfl), if_pos c4]; rfl
      · rw [if_neg (by rw [nIe (by omega) (by decide)]; exact c4), m_rnk LM (by omega) (by omega), cI_some, if_neg c4]
    rw [ey, ee]
    exact ⟨fun s' q => (by cases q; exact ⟨a', t', pl', w', r1, r2, r3⟩), fun f q => (by cases q)⟩
  have ee0 : F_X11_behindOne (d + 1) (MD h a t pl w) = (if ptI (pt π (tk p)) < 0 then some (Value.int 0, MD h a t pl w) else cV (F_X11_settle d 1 (MD h a t pl w)) (fun h7 => cV (F_X11_nextToken d h7) (fun h8 => (if ptI (pt π (tk p)) ≤ 0 then lt_ (sI h8 67 17 ((gI h8 67 17) - 1)) fun h10 => lt_ (sI h10 67 16 ((gI h10 67 16) - 1)) fun h12 => (if bO (opw π) = 43 then cV (F_X11_emit d 3 0 h12) (fun h13 => G_X11_behindOne_82 d (bO 0) (bO (opw π)) (ptI (pt π (tk p))) h13) else G_X11_behindOne_82 d (bO 0) (bO (opw π)) (ptI (pt π (tk p))) h12) else cI (F_X11_openAt d h8) (fun x15 h14 => ck (ib x15 160) (lt_ (sI h14 72 (ix x15) (ptI (pt π (tk p)))) fun h17 => lt_ (sI h17 67 18 0) fun h19 => some (.int 1, h19))))))) := by
    rw [S_X11_behindOne LM, m_bt L X P (by omega) e16 (by omega), cI_some, c0, if_pos (show bO 0 < 0 by decide), m_openNow L P (by omega) e16 (by omega), cI_some, m_pt L X P (by omega) e16 (by omega), cI_some]
  by_cases c1 : pt π (tk p) = 0
  · have ey : ynx tk tv sl (π, o, true, p, c) = .inr (if opw π = 0 then 0 else 1) := by
      unfold ynx
      simp only
      rw [if_pos trivial, if_pos c0, if_pos c1]
    rw [ey, ee0, c1, if_pos (show ptI 0 < 0 by decide)]
    exact ⟨fun s' q => (by cases q), fun f q => rfl⟩
  have hp : p < T := hlt (fun z => c1 (by rw [z]; exact pt_259 π))
  obtain ⟨pc, po⟩ := pt_c π (tk p) c1
  obtain ⟨so, h40⟩ := stel1_op π o c po
  have sl2 := stel_len2 1 π o c
  have slen := stl_len 1 π o c
  have nneg : ¬ ptI (pt π (tk p)) < 0 := by
    rcases pc with z | z | z <;> rw [z] <;> decide
  rw [if_neg nneg] at ee0
  obtain ⟨a1, t1, w1, r1, ⟨⟨f16, f17, f13, f12⟩, P1, hat1, hcO1, q1, q2, q3⟩, r3, ⟨g14, g4, g18⟩, r4⟩ := m_s1n L N hx (sl := sl) (D := d) (by omega) Y hp (fun h8 => (if ptI (pt π (tk p)) ≤ 0 then lt_ (sI h8 67 17 ((gI h8 67 17) - 1)) fun h10 => lt_ (sI h10 67 16 ((gI h10 67 16) - 1)) fun h12 => (if bO (opw π) = 43 then cV (F_X11_emit d 3 0 h12) (fun h13 => G_X11_behindOne_82 d (bO 0) (bO (opw π)) (ptI (pt π (tk p))) h13) else G_X11_behindOne_82 d (bO 0) (bO (opw π)) (ptI (pt π (tk p))) h12) else cI (F_X11_openAt d h8) (fun x15 h14 => ck (ib x15 160) (lt_ (sI h14 72 (ix x15) (ptI (pt π (tk p)))) fun h17 => lt_ (sI h17 67 18 0) fun h19 => some (.int 1, h19)))))
  rw [r1] at ee0
  have e14 : a 14 = 1 ↔ sl = true := Y.2.1.2.1
  have e4 : a 4 = nI len := Y.2.1.2.2
  have e18 : a 18 = 1 := Y.2.1.1
  have b4 : c.length + π.length ≤ p := Y.2.2.2.1
  have b6 : T ≤ 300 := Y.2.2.2.2.2.1
  have b7 : o ≤ 8 := Y.2.2.2.2.2.2
  have opb : opw π < 100 := by
    rcases ixO_c P with ⟨h1, h2⟩ | ⟨j, h1, h2, h3, h4, h5⟩
    · exact absurd h1 po
    · exact h5
  generalize hr1 : (stel 1 π o c).1.tail = rest at so
  rw [so] at f16 P1 hcO1 q1 q2 sl2 slen
  simp only [List.length_cons] at f16 q1 q2 sl2 slen
  have hcr : (stel 1 π o c).2.1 = 1 + cO rest := by
    rw [hcO1, cO, if_pos (Or.inr (Or.inr h40))]
  by_cases c2 : pt π (tk p) = 1
  rotate_left
  · have hv : 40 ≤ pt π (tk p) ∧ pt π (tk p) < 100 := by omega
    have ey : ynx tk tv sl (π, o, true, p, c) = .inl (pt π (tk p) :: rest, (stel 1 π o c).2.1, false, p + 1, (stel 1 π o c).2.2) := by
      unfold ynx
      simp only
      rw [if_pos trivial, if_pos c0, if_neg c1, if_neg c2, hr1]
    have pv : ptI (pt π (tk p)) = nI (pt π (tk p)) := by
      unfold ptI
      rw [if_neg c1, if_neg c2]
    have ix1 : ixO (opw π :: rest) = nI rest.length := by rw [ixO, if_pos h40]
    have f16' : a1 16 = nI (opw π :: rest).length := f16
    rw [if_neg (by rw [pv, show (0 : Int32) = nI 0 from rfl, nI_leI (by omega) (by omega)]; omega), m_openAt L P1 (by simp only [List.length_cons]; omega) f16' (by omega), cI_some, ix1, ck_pos ((ib_nIi (by omega)).mpr (by omega)), ix_nI (by omega), sI_MD72, lt_def, sI_MD67, lt_def, pv] at ee0
    rw [ey]
    refine ⟨fun s' q => ?_, fun f q => (by cases q)⟩
    cases q
    refine ⟨_, t1, _, w1, ee0, ⟨⟨⟨f16, f17, f13, f12⟩, ⟨va_same _ _ _, hv.2, PIL_up P1.2.2 (Nat.le_refl _)⟩, hat1, ?_, ?_, ?_, q3⟩, ⟨va_same _ _ _, ?_, ?_⟩, LX_eq r3 rfl rfl rfl rfl, ?_, ?_, b6, ?_⟩, FRM_tr r4 ⟨fun k hk => va_ne _ _ hk.2.2.2.2.2.2.2, fun _ _ => rfl⟩⟩
    · show (stel 1 π o c).2.1 = cO (pt π (tk p) :: rest)
      rw [cO, if_pos (Or.inr (Or.inr hv.1))]; exact hcr
    · show (stel 1 π o c).2.2.length + (pt π (tk p) :: rest).length ≤ 300
      rw [List.length_cons]; omega
    · show (pt π (tk p) :: rest).length ≤ 160
      rw [List.length_cons]; omega
    · show a1 14 = 1 ↔ sl = true
      rw [g14]; exact e14
    · show a1 4 = nI len
      rw [g4]; exact e4
    · show (stel 1 π o c).2.2.length + (pt π (tk p) :: rest).length ≤ p + 1
      rw [List.length_cons]; omega
    · show p + 1 ≤ T
      omega
    · show (stel 1 π o c).2.1 ≤ 8
      omega
  have ey : ynx tk tv sl (π, o, true, p, c) = .inl (fin7 rest (cO rest) ((stel 1 π o c).2.2 ++ (if opw π = 43 then [(3, 0)] else [])) (p + 1)) := by
    unfold ynx
    simp only
    rw [if_pos trivial, if_pos c0, if_neg c1, if_pos c2, hr1, hcr, Nat.add_sub_cancel_left]
  have v17 : gI (MD h a1 t1 pl w1) 67 17 - 1 = nI (cO rest) := by
    rw [gI_MD67, f17, hcr, Nat.add_comm, nI_pred]
  have v16 : gI (MD h (va_up a1 17 (nI (cO rest))) t1 pl w1) 67 16 - 1 = nI rest.length := by
    rw [gI_MD67, va_ne _ _ (by decide), f16, nI_pred]
  rw [c2, if_pos (show ptI 1 ≤ 0 by decide), v17, sI_MD67, lt_def, v16, sI_MD67, lt_def] at ee0
  have S0 : SV tx (va_up (va_up a1 17 (nI (cO rest))) 16 (nI rest.length)) t1 pl rest (cO rest) (stel 1 π o c).2.2 := ⟨⟨va_same _ _ _, rfl, f13, f12⟩, P1.2.2, hat1, rfl, by omega, by omega, q3⟩
  have S1 : ∃ a2 t2, F_X11_behindOne (d + 1) (MD h a t pl w) = G_X11_behindOne_82 d (bO 0) (bO (opw π)) (ptI 1) (MD h a2 t2 pl w1) ∧ SV tx a2 t2 pl rest (cO rest) ((stel 1 π o c).2.2 ++ (if opw π = 43 then [(3, 0)] else [])) ∧ (∀ k, ¬ k = 13 → ¬ k = 16 → ¬ k = 17 → a2 k = a1 k) ∧ (∀ j, j < 681 * tx + 73 ∨ 681 * tx + 681 ≤ j → t2 j = t1 j) := by
    by_cases c43 : opw π = 43
    · rw [if_pos (by rw [c43]; decide), show F_X11_emit d 3 0 (MD h (va_up (va_up a1 17 (nI (cO rest))) 16 (nI rest.length)) t1 pl w1) = _ from m_emt L hx (w := w1) (pl := pl) (by omega) (show va_up (va_up a1 17 (nI (cO rest))) 16 (nI rest.length) 12 = nI (681 * tx) from f12) (show va_up (va_up a1 17 (nI (cO rest))) 16 (nI rest.length) 13 = nI (stel 1 π o c).2.2.length from f13) (by omega) 3 0, cV_some] at ee0
      rw [if_pos c43]
      refine ⟨_, _, ee0, ⟨⟨rfl, rfl, ?_, f12⟩, P1.2.2, atM_snoc (x := 3) (y := 0) hat1, rfl, ?_, by omega, q3⟩, fun k k1 k2 k3 => ?_, fun j hj => ?_⟩
      · rw [va_same, List.length_append]; rfl
      · rw [List.length_append, List.length_singleton]; omega
      · rw [va_ne _ _ k1, va_ne _ _ k2, va_ne _ _ k3]
      · rw [va_ne _ _ (by omega), va_ne _ _ (by omega)]
    · have : ¬ bO (opw π) = 43 := by
        unfold bO
        rw [if_neg po, nIe (by omega) (by decide)]
        exact c43
      rw [if_neg this] at ee0
      rw [if_neg c43, List.append_nil]
      refine ⟨_, _, ee0, S0, fun k k1 k2 k3 => ?_, fun _ _ => rfl⟩
      rw [va_ne _ _ k2, va_ne _ _ k3]
  obtain ⟨a2, t2, u1, u2, u3, u4⟩ := S1
  obtain ⟨a3, t3, s1, s2, s3⟩ := m_settl L hx (w := w1) u2 (D := d) (l := 7) (by omega) (by omega) (by omega)
  have sl7 := stel_len2 7 rest (cO rest) ((stel 1 π o c).2.2 ++ (if opw π = 43 then [(3, 0)] else []))
  have ap : ((stel 1 π o c).2.2 ++ (if opw π = 43 then [(3, 0)] else [])).length ≤ (stel 1 π o c).2.2.length + 1 := by
    rw [List.length_append]
    split
    · exact Nat.le_refl _
    · exact Nat.le_succ _
  rw [S_X11_behindOne_82 (lay_MD L _ _ _ _), show (7 : Int32) = nI 7 from rfl, s1, cV_some] at u1
  rw [ey, u1]
  refine ⟨fun s' q => ?_, fun f q => (by cases q)⟩
  cases q
  have v3 : ∀ k, ¬ k = 13 → ¬ k = 16 → ¬ k = 17 → a3 k = a1 k := fun k k1 k2 k3 => (s3.1 k k1 k2 k3).trans (u3 k k1 k2 k3)
  refine ⟨a3, t3, pl, w1, rfl, ⟨s2, ⟨?_, ?_, ?_⟩, LX_eq r3 (v3 7 (by decide) (by decide) (by decide)) (v3 8 (by decide) (by decide) (by decide)) (v3 9 (by decide) (by decide) (by decide)) (v3 10 (by decide) (by decide) (by decide)), ?_, ?_, b6, ?_⟩, FRM_tr r4 (FRS_M (FRS_tr ⟨u3, u4⟩ s3))⟩
  · rw [v3 18 (by decide) (by decide) (by decide), g18, e18]; rfl
  · rw [v3 14 (by decide) (by decide) (by decide), g14]; exact e14
  · rw [v3 4 (by decide) (by decide) (by decide), g4]; exact e4
  · show (stel 7 rest (cO rest) ((stel 1 π o c).2.2 ++ (if opw π = 43 then [(3, 0)] else []))).2.2.length + (stel 7 rest (cO rest) ((stel 1 π o c).2.2 ++ (if opw π = 43 then [(3, 0)] else []))).1.length ≤ p + 1
    omega
  · show p + 1 ≤ T
    omega
  · show (stel 7 rest (cO rest) ((stel 1 π o c).2.2 ++ (if opw π = 43 then [(3, 0)] else []))).2.1 ≤ 8
    omega
end MBH
