--deps:19.lay 21.facts 22.00.names 22.01.eq 22.02.eq 22.03.eq 22.04.eq 22.05.eq 22.06.eq 22.07.eq 22.08.eq 22.09.eq 22.10.eq 22.11.eq 22.12.eq 22.13.eq 22.14.eq 22.15.eq 22.16.eq 22.17.eq 22.18.eq 22.19.eq 22.20.eq 22.21.eq 22.22.eq 22.23.eq 23.num 24.town 25.evc 26.evm 27.law 28.says 29.inv 30.api1 31.copy 32.api2 33.api3 34.api4 35.api5 36.deeds
/-! HOURS and years of the class's town -/
set_option linter.unusedSectionVars false
theorem jmax_sub {a b : Nat} (ha : a < 1000) (hb : b < 1000) : jmax (nI a - nI b) 0 = nI (a - b) := by
  unfold jmax
  by_cases c : b ≤ a
  · rw [pk_sub c, if_neg (nIz (by omega))]
  · rw [if_pos (pk_sneg (by omega) (by omega)), show a - b = 0 by omega]
    rfl
theorem jmin_n {a b : Nat} (ha : a < 2 ^ 31) (hb : b < 2 ^ 31) : jmin (nI a) (nI b) = nI (min a b) := by
  unfold jmin
  by_cases c : b < a
  · rw [if_pos (nI_lt c ha)]; congr 1; omega
  · rw [if_neg (nI_nlt (by omega) (by omega))]; congr 1; omega
theorem snS_H (s : TS) : (snS s).2.2.1 = s.2.2.1 := by
  unfold snS
  dsimp only
theorem snS_P (s : TS) : (snS s).1 = s.1 := by
  unfold snS
  dsimp only
theorem slT_le {n : Nat} {W : Nat → Nat} {ds : Option Den} {r : Bool} {p : Nat} {s : TS} (h : s.1 p ≤ 8) : slT n W ds r p s ≤ 8 := by
  unfold slT
  split <;> omega
section HOURS
theorem c_slide1 {h : MH} (L : lay h) (d : Nat) {q : Nat} (T : tAt q) {n : Nat} {W : Nat → Nat} {s : TS} (t : CT h q n W s) {dt : Option Den} {ds : Option Den} (rl : rlC h (gR h q 9) dt ds) (a : Int32) (o3 o4 o5 : Option Value) {i : Nat} (hi : i < n) : ∃ o3' o4' o5' h', G_X9_slideAll_2 (d + 3) q a (nI i) o3 o4 o5 h = G_X9_slideAll_2 (d + 3) q a (nI (i + 1)) o3' o4' o5' h' ∧ CT h' q n W (slS n W ds (tb a) i s) ∧ CF q h h' := by
  have hn := t.1
  have tp := t.2.2.2.1 i (by omega)
  obtain ⟨h1, e1, s1⟩ := c_slidesBy L d T (CT_twn t) t.2.2.2.2.2.1.1 t.2.2.2.2.2.1.2 rl hi
  have L1 : lay h1 := lay_F e1 L rfl
  have t1 := CT_6 T s1 t
  have f1 := CF_6 s1 L1
  have hs := sldN_le ds (nmZ n W s.1 s.2.1 s.2.2.1 (some i)) (ldZ n W s.1 s.2.1)
  have hT := slT_le (n := n) (W := W) (ds := ds) (r := tb a) tp.2
  have z2 : q + 2 ∈ cZ q := by unfold cZ; simp
  have key : ∀ far, ∃ o3' o4' o5' h', G_X9_slideAll_30 (d + 3) q a (nI i) (nI (s.1 i)) far o5 (nI (slT n W ds (tb a) i s)) h1 = G_X9_slideAll_2 (d + 3) q a (nI (i + 1)) o3' o4' o5' h' ∧ CT h' q n W (slS n W ds (tb a) i s) ∧ CF q h h' := by
    intro far
    rw [S_X9_slideAll_30 L1 (d + 3) q T]
    unfold slS
    by_cases c : slT n W ds (tb a) i s = s.1 i
    · rw [if_pos (congrArg nI c), if_pos c, S_X9_slideAll_44 L1 (d + 3) q T, nI_1]
      exact ⟨_, _, _, h1, rfl, t1, f1⟩
    · rw [if_neg (fun w => c ((nI_eq (by omega) (by omega)).mp w)), if_neg c]
      obtain ⟨h2, e2, t2, f2⟩ := c_write L1 (d + 2) T t1 (p := i) (f := s.1 i) (o := slT n W ds (tb a) i s) (by omega) tp.2 hT
      rw [e2, cV_some, ck_pos (ib_nI (by omega) (by omega)), lt_def, ix_nI (by omega)]
      have f3 := CF_sI (k := i) (v := nI (slT n W ds (tb a) i s)) T f2.2.2 z2
      rw [S_X9_slideAll_44 f3.2.2 (d + 3) q T, nI_1]
      exact ⟨_, _, _, _, rfl, CT_P t2 hT, CF_trans f1 (CF_trans f2 f3)⟩
  rw [S_X9_slideAll_2 L (d + 3) q T, t.2.1, if_pos (nI_lt hi (by omega)), ck_pos (ib_nI (by omega) (by omega)), ix_nI (by omega), tp.1, lt_def, e1, cI_some]
  by_cases ha : a = 0
  · rw [if_pos ha, jmax_sub (by omega) (by omega)]
    have := key (nI (sldN ds (nmZ n W s.1 s.2.1 s.2.2.1 (some i)) (ldZ n W s.1 s.2.1)))
    unfold slT at this
    rw [tb0 ha, if_neg (by decide)] at this
    rw [tb0 ha]
    exact this
  · rw [if_neg ha, nI_add, show (8 : Int32) = nI 8 from rfl, jmin_n (by omega) (by omega)]
    have := key (nI (sldN ds (nmZ n W s.1 s.2.1 s.2.2.1 (some i)) (ldZ n W s.1 s.2.1)))
    unfold slT at this
    rw [tb1 ha, if_pos rfl] at this
    rw [tb1 ha]
    exact this
theorem c_slideAll {h : MH} (L : lay h) (d : Nat) {q : Nat} (T : tAt q) {n : Nat} {W : Nat → Nat} {s : TS} (t : CT h q n W s) {dt : Option Den} {ds : Option Den} (rl : rlC h (gR h q 9) dt ds) (a : Int32) : ∃ h', F_X9_slideAll (d + 4) q a h = some (.int 0, h') ∧ CT h' q n W (itr (slS n W ds (tb a)) s n) ∧ CF q h h' := by
  have hn := t.1
  rw [S_X9_slideAll L (d + 3) q _ T]
  have step : ∀ (i : Nat) (st : Option Value × Option Value × Option Value × MH), i < n → (CT st.2.2.2 q n W (itr (slS n W ds (tb a)) s i) ∧ CF q h st.2.2.2) → ∃ st' : Option Value × Option Value × Option Value × MH, (CT st'.2.2.2 q n W (itr (slS n W ds (tb a)) s (i + 1)) ∧ CF q h st'.2.2.2) ∧ G_X9_slideAll_2 (d + 3) q a (nI i) st.1 st.2.1 st.2.2.1 st.2.2.2 = G_X9_slideAll_2 (d + 3) q a (nI (i + 1)) st'.1 st'.2.1 st'.2.2.1 st'.2.2.2 := by
    rintro i ⟨o3, o4, o5, k⟩ hi ⟨ti, fi⟩
    obtain ⟨o3', o4', o5', h', e', t', f'⟩ := c_slide1 fi.2.2 d T ti (CF_rl fi rl) a o3 o4 o5 hi
    exact ⟨(o3', o4', o5', h'), ⟨t', CF_trans fi f'⟩, e'⟩
  obtain ⟨st, ⟨i1, i2⟩, e⟩ := loop_rel (n := n) (σ := Option Value × Option Value × Option Value × MH) (I := fun i st => CT st.2.2.2 q n W (itr (slS n W ds (tb a)) s i) ∧ CF q h st.2.2.2) (G := fun i st => G_X9_slideAll_2 (d + 3) q a (nI i) st.1 st.2.1 st.2.2.1 st.2.2.2) (s := (none, none, none, h)) step ⟨t, CF_refl L⟩
  refine ⟨st.2.2.2, ?_, i1, i2⟩
  refine e.trans ?_
  rw [S_X9_slideAll_2 i2.2.2 (d + 3) q T, i1.2.1, if_neg (nI_nlt (Nat.le_refl _) (by omega))]
theorem c_passHour {h : MH} (L : lay h) (d : Nat) {q : Nat} (T : tAt q) {n : Nat} {W : Nat → Nat} {s : TS} (t : CT h q n W s) {dt : Option Den} {ds : Option Den} (rl : rlC h (gR h q 9) dt ds) (hH : s.2.2.1 < 9999) : ∃ h', F_X9_passHour (d + 5) q h = some (.int (bz (slipS n W dt s)), h') ∧ CT h' q n W (passS n W dt ds s) ∧ CF q h h' := by
  obtain ⟨h1, e1, t1, f1⟩ := c_draw L (d + 3) T t
  have tx := t.2.2.2.2.2.2.1
  have hc : s.2.2.2.1 % 9 < 9 := Nat.mod_lt _ (by decide)
  have tc := t1.2.2.2.2.1 (s.2.2.2.1 % 9) hc
  have z0 : q ∈ cZ q := by unfold cZ; simp
  have z4 : q + 4 ∈ cZ q := by unfold cZ; simp
  have f2 := CF_sI (k := s.2.2.2.1 % 9) (v := nI (min (s.2.1 (s.2.2.2.1 % 9) + 1) 9)) T f1.2.2 z4
  have t2 : CT (sI h1 (q + 4) (s.2.2.2.1 % 9) (nI (min (s.2.1 (s.2.2.2.1 % 9) + 1) 9))) q n W (snS s) := by
    have := CT_S (c := s.2.2.2.1 % 9) (v := min (s.2.1 (s.2.2.2.1 % 9) + 1) 9) t1 (Nat.min_le_right _ _)
    unfold snS
    exact this
  have f12 := CF_trans f1 f2
  obtain ⟨h3, e3, s3⟩ := c_tipsNow f2.2.2 (d + 1) T (CT_twn t2) t2.2.2.2.2.2.1.1 t2.2.2.2.2.2.1.2 (CF_rl f12 rl)
  have L3 : lay h3 := lay_F e3 f2.2.2 rfl
  have t3 := CT_6 T s3 t2
  have f3 := CF_trans f12 (CF_6 s3 L3)
  have tip := twn_b (CT_twn t2)
  have tps := tpsN_le dt (nmZ n W (snS s).1 (snS s).2.1 (snS s).2.2.1 none) (ldZ n W (snS s).1 (snS s).2.1)
  have eS : (snS s).2.2.1 = s.2.2.1 := snS_H s
  rw [S_X9_passHour L (d + 4) q T, e1, cI_some, lt_def, nIr (by omega) (by omega) (by omega), ck_pos (ib_nI (by omega) (by omega)), ck_pos (ib_nI (by omega) (by omega)), ix_nI (by omega), tc.1, nI_1, show (9 : Int32) = nI 9 from rfl, jmin_n (by have := tc.2; omega) (by omega), lt_def, c_tipNow f2.2.2 (d + 3) T (CT_twn t2), cI_some, e3, cI_some, zI_abs (by omega), ← nI_zI]
  have fin : ∀ {k : MH} {u : TS} (l1 l2 : Int32) (x : Int32), lay k → mrt 1 x → CT k q n W u → u.2.2.1 < 9999 → ∃ h', G_X9_passHour_38 (d + 4) q l1 l2 x k = some (.int x, h') ∧ CT h' q n W (u.1, u.2.1, u.2.2.1 + 1, u.2.2.2) ∧ CF q k h' := by
    intro k u l1 l2 x Lk hx tk hu
    rw [S_X9_passHour_38 Lk (d + 4) q T, lt_def, tk.2.2.2.2.2.1.1, nI_1, ck_pos hx]
    exact ⟨_, rfl, CT_H tk (by omega), CF_sI T Lk z0⟩
  unfold passS sldS
  by_cases c : (tipZ n W (snS s).1 (snS s).2.1).natAbs ≤ tpsN dt (nmZ n W (snS s).1 (snS s).2.1 (snS s).2.2.1 none) (ldZ n W (snS s).1 (snS s).2.1)
  · have hsl : slipS n W dt s = false := by unfold slipS stl; rw [decide_eq_true c]; rfl
    rw [if_pos (nI_le c (by omega)), S_X9_passHour_28 L3 (d + 4) q T, if_pos rfl, hsl]
    obtain ⟨h4, e4, t4, f4⟩ := fin (nI (s.2.2.2.1 % 9)) (zI (tipZ n W (snS s).1 (snS s).2.1)) 0 L3 (Or.inl rfl) t3 (by rw [eS]; exact hH)
    exact ⟨h4, e4, t4, CF_trans f3 f4⟩
  · have hsl : slipS n W dt s = true := by unfold slipS stl; rw [decide_eq_false c]; rfl
    have hH' : ∀ (r : Bool) (k : Nat), (itr (slS n W ds r) (snS s) k).2.2.1 = s.2.2.1 := by
      intro r k
      induction k with
      | zero => exact snS_H s
      | succ k ih =>
        rw [itr]
        unfold slS
        split
        · exact ih
        · show (wrS _ _ _ _).2.2.1 = _
          unfold wrS
          split <;> exact ih
    rw [if_neg (nI_ge (by omega) (by omega)), S_X9_passHour_28 L3 (d + 4) q T, if_neg i10, hsl]
    have go : ∀ (a : Int32), tb a = decide (0 < tipZ n W (snS s).1 (snS s).2.1) → ∃ h', G_X9_passHour_37 (d + 4) q (nI (s.2.2.2.1 % 9)) (zI (tipZ n W (snS s).1 (snS s).2.1)) 1 a h3 = some (.int 1, h') ∧ CT h' q n W ((itr (slS n W ds (decide (0 < tipZ n W (snS s).1 (snS s).2.1))) (snS s) n).1, (itr (slS n W ds (decide (0 < tipZ n W (snS s).1 (snS s).2.1))) (snS s) n).2.1, (itr (slS n W ds (decide (0 < tipZ n W (snS s).1 (snS s).2.1))) (snS s) n).2.2.1 + 1, (itr (slS n W ds (decide (0 < tipZ n W (snS s).1 (snS s).2.1))) (snS s) n).2.2.2) ∧ CF q h h' := by
      intro a ea
      obtain ⟨h4, e4, t4, f4⟩ := c_slideAll L3 d T t3 (CF_rl f3 rl) a
      rw [S_X9_passHour_37 L3 (d + 4) q T, e4, cV_some]
      rw [ea] at t4
      obtain ⟨h5, e5, t5, f5⟩ := fin (nI (s.2.2.2.1 % 9)) (zI (tipZ n W (snS s).1 (snS s).2.1)) 1 f4.2.2 (Or.inr rfl) t4 (by rw [hH']; exact hH)
      exact ⟨h5, e5, t5, CF_trans f3 (CF_trans f4 f5)⟩
    by_cases c0 : 0 < tipZ n W (snS s).1 (snS s).2.1
    · rw [if_neg (fun w => by rw [show (0 : Int32) = zI 0 by decide +kernel, zI_le (by omega) (by omega)] at w; omega)]
      exact go 1 (by rw [decide_eq_true c0]; rfl)
    · rw [if_pos (by rw [show (0 : Int32) = zI 0 by decide +kernel, zI_le (by omega) (by omega)]; omega)]
      exact go 0 (by rw [decide_eq_false c0]; rfl)
theorem c_happen {h : MH} (L : lay h) (d : Nat) {q : Nat} (T : tAt q) {n : Nat} {W : Nat → Nat} {s : TS} (t : CT h q n W s) {dt : Option Den} {ds : Option Den} (rl : rlC h (gR h q 9) dt ds) {x : Nat} (hx : x ≤ 30840) : ∃ h', F_X9_happen (d + 6) q (nI x) h = some (.int 0, h') ∧ CT h' q n W (hapS n W dt ds x s) ∧ CF q h h' := by
  have hn := t.1
  have hm : x % 6 < 6 := Nat.mod_lt _ (by decide)
  rw [S_X9_happen L (d + 5) q _ T, lt_def, nIr (by omega) (by omega) (by omega), nId (by omega) (by omega) (by omega)]
  unfold hapS
  by_cases c2 : x % 6 = 2
  · rw [if_pos (show nI (x % 6) = 2 by rw [c2]; rfl), if_pos c2, nIr (by omega) (by omega) (by omega)]
    obtain ⟨h1, e1, t1, f1⟩ := c_clear L d T t rl (c := x / 6 % 9) (k := 1) (Nat.mod_lt _ (by decide)) (by omega)
    have e1' : F_X9_clear (d + 5) q (nI (x / 6 % 9)) 1 h = _ := e1
    rw [e1', cI_some]
    exact ⟨h1, rfl, t1, f1⟩
  rw [if_neg (fun w => c2 ((nIe (by omega) (by omega)).mp w)), if_neg c2]
  by_cases c3 : x % 6 ≤ 3
  · rw [if_pos ((nIL (by omega) (by omega)).mpr c3), if_pos c3, t.2.1]
    by_cases c0 : n = 0
    · rw [if_pos (show nI n ≤ 0 by rw [c0]; decide), if_pos c0]
      exact ⟨h, rfl, t, CF_refl L⟩
    · have hp : x % n < n := Nat.mod_lt _ (by omega)
      have hp2 : x / 6 % n < n := Nat.mod_lt _ (by omega)
      rw [if_neg (nI_nle (by omega) (by omega)), if_neg c0, ck_pos (nI_ne0 (by omega) (by omega)), lt_def, pk_rem (by omega) (by omega) (by omega)]
      by_cases c4 : x % 6 = 3
      · rw [if_pos (show nI (x % 6) = 3 by rw [c4]; rfl), if_pos c4, ck_pos (nI_ne0 (by omega) (by omega)), pk_rem (by omega) (by omega) (by omega)]
        obtain ⟨h1, e1, t1, f1⟩ := c_goPaired L d T t rl hp hp2 0 1
        rw [e1, cI_some]
        exact ⟨h1, rfl, t1, f1⟩
      · rw [if_neg (fun w => c4 ((nIe (by omega) (by omega)).mp w)), if_neg c4]
        by_cases c5 : x % 6 = 1
        · rw [if_pos (show nI (x % 6) = 1 by rw [c5]; rfl), S_X9_happen_60 L (d + 5) q T, decide_eq_true c5]
          obtain ⟨h1, e1, t1, f1⟩ := c_go L d T t rl hp 1
          rw [e1, cI_some]
          exact ⟨h1, rfl, t1, f1⟩
        · rw [if_neg (fun w => c5 ((nIe (by omega) (by omega)).mp w)), S_X9_happen_60 L (d + 5) q T, decide_eq_false c5]
          obtain ⟨h1, e1, t1, f1⟩ := c_go L d T t rl hp 0
          rw [e1, cI_some]
          exact ⟨h1, rfl, t1, f1⟩
  · rw [if_neg (fun w => c3 ((nIL (by omega) (by omega)).mp w)), if_neg c3, t.2.2.2.2.2.1.1]
    by_cases c6 : s.2.2.1 < 9999
    · rw [if_pos ((nIl (by have := t.2.2.2.2.2.1.2; omega) (by omega)).mpr c6), if_pos c6]
      obtain ⟨h1, e1, t1, f1⟩ := c_passHour L d T t rl c6
      rw [e1, cI_some]
      exact ⟨h1, rfl, t1, f1⟩
    · rw [if_neg (fun w => c6 ((nIl (by have := t.2.2.2.2.2.1.2; omega) (by omega)).mp w)), if_neg c6]
      exact ⟨h, rfl, t, CF_refl L⟩
end HOURS
