--deps:19.lay 71.yard
/-! THE YARD: questions, choices, a whole sum -/
set_option linter.unusedSectionVars false
section YARD2
variable {tk tv : Nat → Nat} {sl : Bool}
theorem A8_A1 {o : Nat} {π : List Nat} (a : A8 o π) : A1 o π := ⟨by have := a.1; omega, hdl_mono (by omega) (aah_hd a.2)⟩
theorem cmpO_rk {t k : Nat} (e : cmpO t = k) (hk : ¬ k = 0) : rk k = 4 ∧ k < 40 ∧ ¬ k = 20 ∧ ¬ ariT t := by
  unfold cmpO at e
  unfold ariT
  split at e
  · subst e; rename_i h; subst h; decide
  · split at e
    · subst e; rename_i h; subst h; decide
    · split at e
      · subst e; rename_i h; subst h; decide
      · split at e
        · subst e; rename_i h; subst h; decide
        · split at e
          · subst e; rename_i h; subst h; decide
          · split at e
            · subst e; rename_i h; subst h; decide
            · omega
theorem ask_y {o p q k : Nat} {m : List (Nat × Nat)} (I : LEV tk tv sl 5 False (A1 o) o p m q) (e : cmpO (tk q) = k) (hk : ¬ k = 0) {π : List Nat} (a : A8 o π) (c : List (Nat × Nat)) {s : YS} (r : Yr tk tv sl (k :: π, o, false, q + 1, c ++ m) s) : Yr tk tv sl (π, o, false, p, c) s := by
  obtain ⟨P, c', h3, h4, -, r1⟩ := I π c (A8_A1 a)
  have w := opw_app (π := π) (ge1 h3 (by omega))
  have w2 := cmpd_app (π := π) h3
  rw [a.2.1] at w
  rw [aah_cmpd a.2] at w2
  obtain ⟨b1, b2, b3, b4⟩ := cmpO_rk e hk
  have hb : bt (P ++ π) (tk q) = k := by
    unfold ariT at b4
    unfold bt
    rw [if_neg (by omega), if_neg (by omega), if_neg (by omega), if_neg (by omega), if_pos w, w2, if_neg (by decide), e]
  exact Yr_trans r1 (Yr_step (Yr_len' r1) (y_btw h3 h4 (A8_A1 a).2 hb hk (by rw [if_pos b1])) r)
theorem A1_cmp {o k : Nat} {π : List Nat} (a : A8 o π) (hr : rk k = 4) : A1 o (k :: π) := ⟨by have := a.1; simp only [List.length_cons]; omega, hdl_cons (by omega) π⟩
theorem ask_cmp {o p q k q2 : Nat} {m m2 : List (Nat × Nat)} (I : LEV tk tv sl 5 False (A1 o) o p m q) (e : cmpO (tk q) = k) (hk : ¬ k = 0) (J : LEV tk tv sl 5 False (A1 o) o (q + 1) m2 q2) : LEV tk tv sl 3 True (A8 o) o p (m ++ m2 ++ [(k, 0)]) q2 := by
  intro π c a
  obtain ⟨b1, b2, b3, b4⟩ := cmpO_rk e hk
  obtain ⟨P, c', h3, h4, -, r⟩ := J (k :: π) (c ++ m) (A1_cmp a b1)
  refine ⟨P ++ [k], c', fun j hj => ?_, ?_, fun _ => ?_, ?_⟩
  · rcases List.mem_append.mp hj with hj | hj
    · exact Nat.le_trans (by omega) (h3 j hj)
    · rw [List.mem_singleton] at hj; subst hj; omega
  · rw [List.map_append, ← List.append_assoc, h4]
    simp [tz]
  · rw [List.append_assoc, cmpd_app h3]
    show cmpd (k :: π) = true
    rw [cmpd, if_neg (by omega)]
    exact decide_eq_true b1
  · rw [cnt_app, map_cnt0 (P := [k]) (fun j hj => by rw [List.mem_singleton] at hj; subst hj; omega), Nat.add_zero, List.append_assoc]
    exact ask_y I e hk a c r
theorem ask_no {o p f q : Nat} (hn : ¬ tk p = 323) (I : NOO tk tv sl (AN tk p (A1 o)) o p f q) : NOO tk tv sl (A8 o) o p f q := fun π c a => I π c ⟨A8_A1 a, fun e => absurd e hn⟩
theorem ask_no2 {o p q k f q2 : Nat} {m : List (Nat × Nat)} (I : LEV tk tv sl 5 False (A1 o) o p m q) (e : cmpO (tk q) = k) (hk : ¬ k = 0) (J : NOO tk tv sl (AN tk (q + 1) (A1 o)) o (q + 1) f q2) : NOO tk tv sl (A8 o) o p f q2 := by
  intro π c a
  obtain ⟨b1, b2, b3, b4⟩ := cmpO_rk e hk
  obtain ⟨s, r, w⟩ := J (k :: π) (c ++ m) ⟨A1_cmp a b1, fun _ => naah_r (by omega) π⟩
  exact ⟨s, ask_y I e hk a c r, w⟩
/-- no comparison stands there -/
theorem ask_no1 {o p q : Nat} {m : List (Nat × Nat)} (I : LEV tk tv sl 5 False (A1 o) o p m q) (e : cmpO (tk q) = 0) (ha : ¬ ariT (tk q)) : NOO tk tv sl (A8 o) o p 1 q := by
  intro π c a
  obtain ⟨P, c', h3, h4, -, r1⟩ := I π c (A8_A1 a)
  have w := opw_app (π := π) (ge1 h3 (by omega))
  have w2 := cmpd_app (π := π) h3
  rw [a.2.1] at w
  rw [aah_cmpd a.2] at w2
  refine ⟨_, r1, ?_, rfl⟩
  unfold ariT at ha
  unfold ynx
  simp only
  rw [if_pos trivial, if_pos (by unfold bt; rw [if_neg (by omega), if_neg (by omega), if_neg (by omega), if_neg (by omega), if_pos w, w2, if_neg (by decide), e]), if_pos (by unfold pt; rw [w, w2, if_neg (by decide), if_pos rfl, if_neg (by simp)]), w]
  rfl
theorem y_not {o p : Nat} (h : tk p = 323) (ho : o < 8) {π : List Nat} (a : A8 o π) (c : List (Nat × Nat)) {s : YS} (r : Yr tk tv sl (20 :: π, o + 1, false, p + 1, c) s) : Yr tk tv sl (π, o, false, p, c) s := by
  refine Yr_step (by have := a.1; simp only; omega) ?_ r
  unfold ynx
  simp only
  rw [if_neg (by simp), if_neg (by omega), if_neg (by omega), if_neg (by rw [h]; decide), if_pos ⟨h, a.2⟩, if_neg (by omega)]
theorem A8_not {o : Nat} {π : List Nat} (a : A8 o π) : A8 (o + 1) (20 :: π) := ⟨by have := a.1; simp only [List.length_cons]; omega, aah_cons a.2.1 (by decide) (by decide)⟩
theorem ask_not {o p q : Nat} {m : List (Nat × Nat)} (h : tk p = 323) (ho : o < 8) (I : LEV tk tv sl 3 True (A8 (o + 1)) (o + 1) (p + 1) m q) : LEV tk tv sl 3 True (A8 o) o p (m ++ [(20, 0)]) q := by
  intro π c a
  obtain ⟨P, c', h3, h4, h5, r⟩ := I (20 :: π) c (A8_not a)
  refine ⟨P ++ [20], c', fun j hj => ?_, ?_, fun t => ?_, ?_⟩
  · rcases List.mem_append.mp hj with hj | hj
    · exact h3 j hj
    · rw [List.mem_singleton] at hj; subst hj; decide
  · rw [List.map_append, ← List.append_assoc, h4]
    simp [tz]
  · rw [List.append_assoc]
    exact h5 t
  · rw [cnt_app, show cnt [20] = 1 from rfl, List.append_assoc, show o + (cnt P + 1) = o + 1 + cnt P by omega]
    exact y_not h ho a c r
theorem no_nota {o p f q : Nat} (h : tk p = 323) (ho : o < 8) (I : NOO tk tv sl (A8 (o + 1)) (o + 1) (p + 1) f q) : NOO tk tv sl (A8 o) o p f q := by
  intro π c a
  obtain ⟨s, r, w⟩ := I (20 :: π) c (A8_not a)
  exact ⟨s, y_not h ho a c r, w⟩
/-- both, either -/
theorem lev2_lev {o p q : Nat} {m : List (Nat × Nat)} (I : LEV tk tv sl 3 True (A8 o) o p m q) : LEV tk tv sl 2 True (A2 o) o p m q := by
  intro π c a
  obtain ⟨P, c', h3, h⟩ := I π c ⟨by have := a.1; omega, a.2.1⟩
  exact ⟨P, c', fun k hk => Nat.le_trans (by omega) (h3 k hk), h⟩
theorem lev2_no {o p f q : Nat} (I : NOO tk tv sl (A8 o) o p f q) : NOO tk tv sl (A2 o) o p f q := fun π c a => I π c ⟨by have := a.1; omega, a.2.1⟩
theorem lev3_lev {o p q : Nat} {m : List (Nat × Nat)} (I : LEV tk tv sl 2 True (A2 o) o p m q) : LEV tk tv sl 1 True (A3 o) o p m q := by
  intro π c a
  obtain ⟨P, c', h3, h⟩ := I π c ⟨by have := a.1; omega, a.2.1, hdl_mono (by omega) a.2.2⟩
  exact ⟨P, c', fun k hk => Nat.le_trans (by omega) (h3 k hk), h⟩
theorem lev3_no {o p f q : Nat} (I : NOO tk tv sl (A2 o) o p f q) : NOO tk tv sl (A3 o) o p f q := fun π c a => I π c ⟨by have := a.1; omega, a.2.1, hdl_mono (by omega) a.2.2⟩
theorem bt_join {π : List Nat} {t : Nat} (w : opw π = 41) (w2 : cmpd π = true) : bt π t = if t = 43 then 6 else if t = 45 then 7 else if t = 42 then 8 else if t = 47 then 9 else if t = 322 then 21 else if t = 321 then 22 else 0 := by
  unfold bt
  rw [if_pos w, if_pos w2]
theorem lev2_y {o p0 p : Nat} {m : List (Nat × Nat)} (I : LEV tk tv sl 2 True (A2 o) o p0 m p) (e : tk p = 322) {π : List Nat} (a : A2 o π) (c : List (Nat × Nat)) {s : YS} (r : Yr tk tv sl (21 :: π, o, false, p + 1, c ++ m) s) : Yr tk tv sl (π, o, false, p0, c) s := by
  obtain ⟨P, c', h3, h4, h5, r1⟩ := I π c a
  have w := opw_app (π := π) (ge1 h3 (by omega))
  rw [a.2.1.1] at w
  exact Yr_trans r1 (Yr_step (Yr_len' r1) (y_btw h3 h4 a.2.2 (by rw [bt_join w (h5 trivial), e]; rfl) (by decide) rfl) r)
theorem A8_and {o : Nat} {π : List Nat} (a : A2 o π) : A8 o (21 :: π) := ⟨by have := a.1; simp only [List.length_cons]; omega, aah_cons a.2.1.1 (by decide) (by decide)⟩
theorem lev2_go {o p0 p q : Nat} {m m2 : List (Nat × Nat)} (I : LEV tk tv sl 2 True (A2 o) o p0 m p) (e : tk p = 322) (J : LEV tk tv sl 3 True (A8 o) o (p + 1) m2 q) : LEV tk tv sl 2 True (A2 o) o p0 (m ++ m2 ++ [(21, 0)]) q := by
  intro π c a
  obtain ⟨P, c', h3, h4, h5, r⟩ := J (21 :: π) (c ++ m) (A8_and a)
  refine ⟨P ++ [21], c', fun j hj => ?_, ?_, fun t => ?_, ?_⟩
  · rcases List.mem_append.mp hj with hj | hj
    · exact Nat.le_trans (by omega) (h3 j hj)
    · rw [List.mem_singleton] at hj; subst hj; decide
  · rw [List.map_append, ← List.append_assoc, h4]
    simp [tz]
  · rw [List.append_assoc]
    exact h5 t
  · rw [cnt_app, show cnt [21] = 0 from rfl, Nat.add_zero, List.append_assoc]
    exact lev2_y I e a c r
theorem lev2_no2 {o p0 p f q : Nat} {m : List (Nat × Nat)} (I : LEV tk tv sl 2 True (A2 o) o p0 m p) (e : tk p = 322) (J : NOO tk tv sl (A8 o) o (p + 1) f q) : NOO tk tv sl (A2 o) o p0 f q := by
  intro π c a
  obtain ⟨s, r, w⟩ := J (21 :: π) (c ++ m) (A8_and a)
  exact ⟨s, lev2_y I e a c r, w⟩
theorem lev3_y {o p0 p : Nat} {m : List (Nat × Nat)} (I : LEV tk tv sl 1 True (A3 o) o p0 m p) (e : tk p = 321) {π : List Nat} (a : A3 o π) (c : List (Nat × Nat)) {s : YS} (r : Yr tk tv sl (22 :: π, o, false, p + 1, c ++ m) s) : Yr tk tv sl (π, o, false, p0, c) s := by
  obtain ⟨P, c', h3, h4, h5, r1⟩ := I π c a
  have w := opw_app (π := π) (ge1 h3 (by omega))
  rw [a.2.1.1] at w
  exact Yr_trans r1 (Yr_step (Yr_len' r1) (y_btw h3 h4 a.2.2 (by rw [bt_join w (h5 trivial), e]; rfl) (by decide) rfl) r)
theorem A2_or {o : Nat} {π : List Nat} (a : A3 o π) : A2 o (22 :: π) := ⟨by have := a.1; simp only [List.length_cons]; omega, aah_cons a.2.1.1 (by decide) (by decide), hdl_cons (by decide) π⟩
theorem lev3_go {o p0 p q : Nat} {m m2 : List (Nat × Nat)} (I : LEV tk tv sl 1 True (A3 o) o p0 m p) (e : tk p = 321) (J : LEV tk tv sl 2 True (A2 o) o (p + 1) m2 q) : LEV tk tv sl 1 True (A3 o) o p0 (m ++ m2 ++ [(22, 0)]) q := by
  intro π c a
  obtain ⟨P, c', h3, h4, h5, r⟩ := J (22 :: π) (c ++ m) (A2_or a)
  refine ⟨P ++ [22], c', fun j hj => ?_, ?_, fun t => ?_, ?_⟩
  · rcases List.mem_append.mp hj with hj | hj
    · exact Nat.le_trans (by omega) (h3 j hj)
    · rw [List.mem_singleton] at hj; subst hj; decide
  · rw [List.map_append, ← List.append_assoc, h4]
    simp [tz]
  · rw [List.append_assoc]
    exact h5 t
  · rw [cnt_app, show cnt [22] = 0 from rfl, Nat.add_zero, List.append_assoc]
    exact lev3_y I e a c r
theorem lev3_no2 {o p0 p f q : Nat} {m : List (Nat × Nat)} (I : LEV tk tv sl 1 True (A3 o) o p0 m p) (e : tk p = 321) (J : NOO tk tv sl (A2 o) o (p + 1) f q) : NOO tk tv sl (A3 o) o p0 f q := by
  intro π c a
  obtain ⟨s, r, w⟩ := J (22 :: π) (c ++ m) (A2_or a)
  exact ⟨s, lev3_y I e a c r, w⟩
/-- a choice -/
theorem A3_ch {o : Nat} {π : List Nat} (h : π.length + 4 ≤ 6 * o) : A3 o (41 :: π) := ⟨by simp only [List.length_cons]; omega, ⟨rfl, by show rk 41 ≤ 3; decide⟩, hdl_cons (by decide) π⟩
theorem A1_ch {o k : Nat} {π : List Nat} (hk : 40 ≤ k) (h : π.length + 4 ≤ 6 * o) : A1 o (k :: π) := by
  refine ⟨by simp only [List.length_cons]; omega, hdl_cons ?_ π⟩
  unfold rk
  rw [if_pos hk]
  omega
theorem y_part {π P : List Nat} {o p k j : Nat} {c c' : List (Nat × Nat)} (h3 : ∀ j, j ∈ P → 1 ≤ rk j) (h4 : c' ++ P.map tz = c) (hj : 40 ≤ j) (hb : bt (P ++ j :: π) (tk p) = 0) (hp : pt (P ++ j :: π) (tk p) = k) (hk : 40 ≤ k) : ynx tk tv sl (P ++ j :: π, o + cnt P, true, p, c') = .inl (k :: π, o, false, p + 1, c) := by
  have hs := stl_app (l := 1) (π := j :: π) (P := P) (o := o) (c := c') h3
  rw [h4, stl_hd (hdl_cons (by unfold rk; rw [if_pos hj]; omega) π)] at hs
  unfold ynx
  simp only
  rw [if_pos trivial, if_pos hb, hp, if_neg (by omega), if_neg (by omega), hs]
  rfl
theorem y_stop {π P : List Nat} {o p j : Nat} {c' : List (Nat × Nat)} (h3 : ∀ j, j ∈ P → 1 ≤ rk j) (hj : 40 ≤ j) (hb : bt (P ++ j :: π) (tk p) = 0) (hp : pt (P ++ j :: π) (tk p) = 0) : ynx tk tv sl (P ++ j :: π, o, true, p, c') = .inr 1 := by
  unfold ynx
  simp only
  rw [if_pos trivial, if_pos hb, if_pos hp, if_neg (by rw [opw_app h3, opw, if_pos hj]; omega)]
theorem opw_ge {π P : List Nat} {j : Nat} (h3 : ∀ j, j ∈ P → 1 ≤ rk j) (hj : 40 ≤ j) : opw (P ++ j :: π) = j := by
  rw [opw_app h3, opw, if_pos hj]
theorem bt_j0 {π : List Nat} {t : Nat} (w : opw π = 41) (w2 : cmpd π = true) (ha : ¬ ariT t) (h1 : ¬ t = 321) (h2 : ¬ t = 322) : bt π t = 0 := by
  unfold ariT at ha
  rw [bt_join w w2, if_neg (by omega), if_neg (by omega), if_neg (by omega), if_neg (by omega), if_neg h2, if_neg h1]
/-- up to then -/
theorem ch_then {o p q : Nat} {m : List (Nat × Nat)} (I : LEV tk tv sl 1 True (A3 o) o p m q) (h : tk q = 318) {π : List Nat} (hl : π.length + 4 ≤ 6 * o) (c : List (Nat × Nat)) {s : YS} (r : Yr tk tv sl (42 :: π, o, false, q + 1, c ++ m) s) : Yr tk tv sl (41 :: π, o, false, p, c) s := by
  obtain ⟨P, c', h3, h4, h5, r1⟩ := I (41 :: π) c (A3_ch hl)
  have w := opw_ge (π := π) h3 (by decide : 40 ≤ 41)
  refine Yr_trans r1 (Yr_step (Yr_len' r1) (y_part h3 h4 (by decide) (bt_j0 w (h5 trivial) (by unfold ariT; omega) (by omega) (by omega)) ?_ (by decide)) r)
  unfold pt
  rw [w, if_neg (by decide), if_pos rfl, if_pos ⟨h, h5 trivial⟩]
theorem ch_else {o p q : Nat} {m : List (Nat × Nat)} (I : LEV tk tv sl 5 False (A1 o) o p m q) (h : tk q = 319) {π : List Nat} (hl : π.length + 4 ≤ 6 * o) (c : List (Nat × Nat)) {s : YS} (r : Yr tk tv sl (43 :: π, o, false, q + 1, c ++ m) s) : Yr tk tv sl (42 :: π, o, false, p, c) s := by
  obtain ⟨P, c', h3, h4, h5, r1⟩ := I (42 :: π) c (A1_ch (by decide) hl)
  have w := opw_ge (π := π) (ge1 h3 (by omega)) (by decide : 40 ≤ 42)
  refine Yr_trans r1 (Yr_step (Yr_len' r1) (y_part (ge1 h3 (by omega)) h4 (by decide) (bt_none (by unfold ariT; omega) (by omega)) ?_ (by decide)) r)
  unfold pt
  rw [w, if_neg (by decide), if_neg (by decide), if_pos rfl, if_pos h]
theorem ch_end {o p q : Nat} {m : List (Nat × Nat)} (I : LEV tk tv sl 5 False (A1 (o + 1)) (o + 1) p m q) (h : tk q = 320) {π : List Nat} (hl : π.length + 4 ≤ 6 * (o + 1)) (ho : o < 8) (c : List (Nat × Nat)) : Yr tk tv sl (43 :: π, o + 1, false, p, c) (fin7 π o (c ++ m ++ [(3, 0)]) (q + 1)) := by
  obtain ⟨P, c', h3, h4, h5, r1⟩ := I (43 :: π) c (A1_ch (by decide) hl)
  have w := opw_ge (π := π) (ge1 h3 (by omega)) (by decide : 40 ≤ 43)
  have hs := stl_app (l := 1) (π := 43 :: π) (P := P) (o := o + 1) (c := c') (ge1 h3 (by omega))
  rw [h4, stl_hd (hdl_cons (by decide) π)] at hs
  have e : ynx tk tv sl (P ++ 43 :: π, o + 1 + cnt P, true, q, c') = .inl (fin7 π o (c ++ m ++ [(3, 0)]) (q + 1)) := by
    unfold ynx
    simp only
    rw [if_pos trivial, if_pos (bt_none (by unfold ariT; omega) (by omega)), show pt (P ++ 43 :: π) (tk q) = 1 by unfold pt; rw [w, h]; rfl, if_neg (by decide), if_pos rfl, hs, if_pos w]
    rfl
  have := stl_len 7 π o (c ++ m ++ [(3, 0)])
  exact Yr_trans r1 (Yr_step (Yr_len' r1) e (Yr_refl (by show (stel 7 π o (c ++ m ++ [(3, 0)])).1.length ≤ 60; omega)))
theorem y_if {o p : Nat} (h : tk p = 317) (ho : o < 8) {π : List Nat} (hl : π.length ≤ 6 * o + 2) (c : List (Nat × Nat)) {s : YS} (r : Yr tk tv sl (41 :: π, o + 1, false, p + 1, c) s) : Yr tk tv sl (π, o, false, p, c) s :=
  Yr_step (by simp only; omega) (y_open (by omega) (by omega) (by rw [h]; rfl) (by decide) ho π c) r
/-- a choice from behind if -/
def CHO (tk tv : Nat → Nat) (sl : Bool) (o p : Nat) (m : List (Nat × Nat)) (q : Nat) : Prop := ∀ π c, π.length + 4 ≤ 6 * o → Yr tk tv sl (41 :: π, o, false, p, c) (fin7 π (o - 1) (c ++ m) q)
theorem cho_ok {o p q1 q2 q3 : Nat} {m1 m2 m3 : List (Nat × Nat)} (h0 : 0 < o) (h8 : o ≤ 8) (I1 : LEV tk tv sl 1 True (A3 o) o p m1 q1) (t1 : tk q1 = 318) (I2 : LEV tk tv sl 5 False (A1 o) o (q1 + 1) m2 q2) (t2 : tk q2 = 319) (I3 : LEV tk tv sl 5 False (A1 o) o (q2 + 1) m3 q3) (t3 : tk q3 = 320) : CHO tk tv sl o p (m1 ++ m2 ++ m3 ++ [(3, 0)]) (q3 + 1) := by
  intro π c hl
  obtain ⟨j, rfl⟩ : ∃ j, o = j + 1 := ⟨o - 1, by omega⟩
  have r3 := ch_end I3 t3 hl (by omega) (c ++ m1 ++ m2)
  have := ch_then I1 t1 hl c (ch_else I2 t2 hl (c ++ m1) r3)
  simpa [List.append_assoc] using this
theorem cho_no {o p f q : Nat} (I : NOO tk tv sl (A3 o) o p f q) : NOO tk tv sl (AC o) o p f q := by
  rintro π c ⟨π', rfl, hl⟩
  exact I _ c (A3_ch hl)
theorem cho_no1 {o p q : Nat} {m : List (Nat × Nat)} (I : LEV tk tv sl 1 True (A3 o) o p m q) (h : ¬ tk q = 318) (ha : ¬ ariT (tk q)) (h1 : ¬ tk q = 321) (h2 : ¬ tk q = 322) : NOO tk tv sl (AC o) o p 1 q := by
  rintro π c ⟨π', rfl, hl⟩
  obtain ⟨P, c', h3, h4, h5, r1⟩ := I (41 :: π') c (A3_ch hl)
  have w := opw_ge (π := π') h3 (by decide : 40 ≤ 41)
  refine ⟨_, r1, y_stop h3 (by decide) (bt_j0 w (h5 trivial) ha h1 h2) ?_, rfl⟩
  unfold pt
  rw [w, if_neg (by decide), if_pos rfl, if_neg (fun q => h q.1)]
theorem cho_no2 {o p q1 f q : Nat} {m1 : List (Nat × Nat)} (I1 : LEV tk tv sl 1 True (A3 o) o p m1 q1) (t1 : tk q1 = 318) (I2 : NOO tk tv sl (AN tk (q1 + 1) (A1 o)) o (q1 + 1) f q) : NOO tk tv sl (AC o) o p f q := by
  rintro π c ⟨π', rfl, hl⟩
  obtain ⟨s, r, w⟩ := I2 (42 :: π') (c ++ m1) ⟨A1_ch (by decide) hl, fun _ => naah_o (by decide) (by decide) π'⟩
  exact ⟨s, ch_then I1 t1 hl c r, w⟩
theorem cho_no3 {o p q1 q2 : Nat} {m1 m2 : List (Nat × Nat)} (I1 : LEV tk tv sl 1 True (A3 o) o p m1 q1) (t1 : tk q1 = 318) (I2 : LEV tk tv sl 5 False (A1 o) o (q1 + 1) m2 q2) (h : ¬ tk q2 = 319) (ha : ¬ ariT (tk q2)) : NOO tk tv sl (AC o) o p 1 q2 := by
  rintro π c ⟨π', rfl, hl⟩
  obtain ⟨P, c', h3, h4, h5, r1⟩ := I2 (42 :: π') (c ++ m1) (A1_ch (by decide) hl)
  have w := opw_ge (π := π') (ge1 h3 (by omega)) (by decide : 40 ≤ 42)
  refine ⟨_, ch_then I1 t1 hl c r1, y_stop (ge1 h3 (by omega)) (by decide) (bt_none ha (by omega)) ?_, rfl⟩
  unfold pt
  rw [w, if_neg (by decide), if_neg (by decide), if_pos rfl, if_neg h]
theorem cho_no4 {o p q1 q2 f q : Nat} {m1 m2 : List (Nat × Nat)} (I1 : LEV tk tv sl 1 True (A3 o) o p m1 q1) (t1 : tk q1 = 318) (I2 : LEV tk tv sl 5 False (A1 o) o (q1 + 1) m2 q2) (t2 : tk q2 = 319) (I3 : NOO tk tv sl (AN tk (q2 + 1) (A1 o)) o (q2 + 1) f q) : NOO tk tv sl (AC o) o p f q := by
  rintro π c ⟨π', rfl, hl⟩
  obtain ⟨s, r, w⟩ := I3 (43 :: π') (c ++ m1 ++ m2) ⟨A1_ch (by decide) hl, fun _ => naah_o (by decide) (by decide) π'⟩
  exact ⟨s, ch_then I1 t1 hl c (ch_else I2 t2 hl (c ++ m1) r), w⟩
theorem cho_no5 {o p q1 q2 q3 : Nat} {m1 m2 m3 : List (Nat × Nat)} (I1 : LEV tk tv sl 1 True (A3 o) o p m1 q1) (t1 : tk q1 = 318) (I2 : LEV tk tv sl 5 False (A1 o) o (q1 + 1) m2 q2) (t2 : tk q2 = 319) (I3 : LEV tk tv sl 5 False (A1 o) o (q2 + 1) m3 q3) (h : ¬ tk q3 = 320) (ha : ¬ ariT (tk q3)) : NOO tk tv sl (AC o) o p 1 q3 := by
  rintro π c ⟨π', rfl, hl⟩
  obtain ⟨P, c', h3, h4, h5, r1⟩ := I3 (43 :: π') (c ++ m1 ++ m2) (A1_ch (by decide) hl)
  have w := opw_ge (π := π') (ge1 h3 (by omega)) (by decide : 40 ≤ 43)
  refine ⟨_, ch_then I1 t1 hl c (ch_else I2 t2 hl (c ++ m1) r1), y_stop (ge1 h3 (by omega)) (by decide) (bt_none ha (by omega)) ?_, rfl⟩
  unfold pt
  rw [w, if_neg (by decide), if_neg (by decide), if_neg (by decide), if_pos rfl, if_neg h]
theorem one_if {o p q : Nat} {m : List (Nat × Nat)} (h : tk p = 317) (ho : o < 8) (I : CHO tk tv sl (o + 1) (p + 1) m q) : ONE tk tv sl o p m q := by
  intro π c hl
  exact y_if h ho hl c (I π c (by omega))
theorem no_if {o p f q : Nat} (h : tk p = 317) (ho : o < 8) (I : NOO tk tv sl (AC (o + 1)) (o + 1) (p + 1) f q) : NOO tk tv sl (AN tk p (A9 o)) o p f q := by
  intro π c hl
  have hl' : π.length ≤ 6 * o + 2 := hl.1
  obtain ⟨s, r, w⟩ := I (41 :: π) c ⟨π, rfl, by omega⟩
  exact ⟨s, y_if h ho hl' c r, w⟩
/-- a whole sum -/
theorem top_ok {p q : Nat} {m : List (Nat × Nat)} (I : LEV tk tv sl 5 False (A1 0) 0 p m q) (ha : ¬ ariT (tk q)) (c : List (Nat × Nat)) : ∃ s, Yr tk tv sl ([], 0, false, p, c) s ∧ ynx tk tv sl s = .inr 0 ∧ s.2.2.2.1 = q ∧ stel 1 s.1 s.2.1 s.2.2.2.2 = ([], 0, c ++ m) ∧ opw s.1 = 0 := by
  obtain ⟨P, c', h3, h4, -, r⟩ := I [] c ⟨Nat.zero_le _, fun k e => by cases e⟩
  have w := opw_app (π := []) (ge1 h3 (by omega))
  have w' : opw [] = 0 := rfl
  rw [w'] at w
  have hs := stl_app (l := 1) (π := []) (P := P) (o := 0) (c := c') (ge1 h3 (by omega))
  rw [h4] at hs
  refine ⟨_, r, ?_, rfl, hs, w⟩
  unfold ynx
  simp only
  rw [if_pos trivial, if_pos (bt_none ha (by omega)), if_pos (by unfold pt; rw [w]; rfl), if_pos w]
theorem top_no {p f q : Nat} (I : NOO tk tv sl (AN tk p (A1 0)) 0 p f q) (c : List (Nat × Nat)) : ∃ s, Yr tk tv sl ([], 0, false, p, c) s ∧ ynx tk tv sl s = .inr f ∧ s.2.2.2.1 = q := I [] c ⟨⟨Nat.zero_le _, fun k e => by cases e⟩, fun _ a => by have : opw [] = 41 := a.1; cases this⟩
end YARD2
