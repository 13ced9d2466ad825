--deps:19.lay 21.facts 22.00.names 22.01.eq 22.02.eq 22.03.eq 22.04.eq 22.05.eq 22.06.eq 22.07.eq 22.08.eq 22.09.eq 22.10.eq 22.11.eq 22.12.eq 22.13.eq 22.14.eq 22.15.eq 22.16.eq 22.17.eq 22.18.eq 22.19.eq 22.20.eq 22.21.eq 22.22.eq 22.23.eq 23.num 24.town 25.evc 26.evm 27.law 28.says 29.inv 30.api1 31.copy 32.api2 33.api3 34.api4 35.api5 36.deeds 37.hours 38.mdeeds
/-! HOURS and years of the reference -/
set_option linter.unusedSectionVars false
/-- the book moved up by one, i lines done -/
def shf (a : Nat → Int32) (i : Nat) : Nat → Int32 := fun k => if 1468 ≤ k ∧ k < 1468 + i then a (k + 1) else a k
theorem shf_0 (a : Nat → Int32) : shf a 0 = a := by
  funext k
  unfold shf
  rw [if_neg (by omega)]
theorem shf_s (a : Nat → Int32) (i : Nat) : va_up (shf a i) (1468 + i) (shf a i (1468 + (i + 1))) = shf a (i + 1) := by
  funext k
  by_cases e : k = 1468 + i
  · subst e
    rw [up_s]
    unfold shf
    rw [if_neg (by omega), if_pos (by omega)]
    rfl
  · rw [up_o _ _ e]
    unfold shf
    by_cases c : 1468 ≤ k ∧ k < 1468 + i
    · rw [if_pos c, if_pos (by omega)]
    · rw [if_neg c, if_neg (by omega)]
def stz (b : Bool) : Int := match b with
  | true => 1
  | false => -1
theorem stp_z (b : Bool) : stp b = zI (stz b) := by cases b <;> decide +kernel
section MHOURS
/-- a line, the person standing already where it came to -/
theorem m_write {h : MH} (L : lay h) (d : Nat) {w : Bool} {n : Nat} {W : Nat → Nat} {s : TS} (t : MTh w h n W s) (hw : gI h 67 23 = bz w) {p f : Nat} (hp : p < 4) (hf : f ≤ 8) : ∃ h', F_X11_write (d + 1) (nI p) (nI f) h = some (.int 0, h') ∧ MTh w h' n W (wrS s p f (s.1 p)) ∧ MF w h h' ∧ gI h' 67 = gI h 67 := by
  have tp := t.2.2.2.1 p hp
  rw [S_X11_write L d, hw]
  cases w with
  | false =>
    rw [if_pos (show bz false = 0 from rfl)]
    refine ⟨h, rfl, ?_, MF_refl L, rfl⟩
    obtain ⟨t0, t1, t2, t3, t4, t5, t6, t7, t8⟩ := t
    unfold wrS
    split
    · exact ⟨t0, t1, t2, t3, t4, t5, t6, fun q => (by cases q), fun q => (by cases q)⟩
    · exact ⟨t0, t1, t2, t3, t4, t5, t6, fun q => (by cases q), fun q => (by cases q)⟩
  | true =>
    have tw := t.2.2.2.2.2.2.2.1 rfl
    have key : ∀ {k : MH} {wr : Nat} {E : Nat → Int32} (o3 : Option Value), lay k → wr < 30 → MTh true k n W (s.1, s.2.1, s.2.2.1, s.2.2.2.1, wr, E) → ∃ h', G_X11_write_39 d (nI p) (nI f) o3 k = some (.int 0, h') ∧ MTh true h' n W (s.1, s.2.1, s.2.2.1, s.2.2.2.1, wr + 1, va_up E wr (valE s.2.2.1 p f (s.1 p))) ∧ MF true k h' ∧ gI h' 67 = gI k 67 := by
      intro k wr E o3 Lk hwr tk
      obtain ⟨t0, t1, t2, t3, t4, t5, t6, t7, t8⟩ := tk
      dsimp only at t5 t7 t8
      have t7' := t7 rfl
      have t8' := t8 rfl
      have t3' := t3 p hp
      rw [S_X11_write_39 Lk d, t7'.1, nIa, ck_pos (ib_nI (by omega) (by omega)), nIa, ck_pos (ib_nI (by omega) (by omega)), ix_nI (by omega), ix_nI (by omega), lt_def, lt_def, t5.1, t3'.1, nIn, nI_add, nIn, nI_add, nIn, nI_add, gI_sIs, up_o _ _ (by omega), t7'.1, nI_1]
      have c1 : MF true k (sI k 68 (1468 + wr) (nI (((s.2.2.1 * 4 + p) * 9 + f) * 9 + s.1 p))) := MF_sI Lk ⟨by omega, Or.inr ⟨by omega, rfl⟩⟩
      refine ⟨_, rfl, ?_, MF_trans c1 (MF_sI c1.2.1 (by omega)), by rw [gI_sIo _ _ _ _ _ (by decide), gI_sIo _ _ _ _ _ (by decide)]⟩
      unfold MTh
      rw [gI_sIs, gI_sIs]
      refine ⟨t0, by rw [up_o _ _ (by omega), up_o _ _ (by omega)]; exact t1, fun p' hp' => by rw [up_o _ _ (by omega), up_o _ _ (by omega)]; exact t2 p' hp', fun p' hp' => by rw [up_o _ _ (by omega), up_o _ _ (by omega)]; exact t3 p' hp', fun c' hc' => by rw [up_o _ _ (by omega), up_o _ _ (by omega)]; exact t4 c' hc', by rw [up_o _ _ (by omega), up_o _ _ (by omega)]; exact t5, by rw [up_o _ _ (by omega), up_o _ _ (by omega)]; exact t6, fun _ => by rw [up_s]; exact ⟨rfl, by show wr + 1 ≤ 30; omega⟩, fun _ j hj => ?_⟩
      rw [up_o _ _ (by omega)]
      show va_up (gI k 68) (1468 + wr) _ (1468 + j) = va_up E wr (valE s.2.2.1 p f (s.1 p)) j
      by_cases e : j = wr
      · subst e; rw [up_s, up_s]; rfl
      · rw [up_o _ _ (by omega), up_o _ _ e]; exact t8' j hj
    rw [if_neg bz1, tw.1]
    unfold wrS
    by_cases h30 : s.2.2.2.2.1 < 30
    · rw [if_neg (fun q => by have := (nIe (by omega) (by omega)).mp q; omega), if_pos h30]
      exact key none L h30 t
    · have e30 : s.2.2.2.2.1 = 30 := by omega
      rw [if_pos (show nI s.2.2.2.2.1 = 30 by rw [e30]; rfl), if_neg h30]
      have loop := loop_all (n := 29) (F := fun i => G_X11_write_12 d (nI p) (nI f) (nI (i + 1)) (rI h 68 (shf (gI h 68) i))) (fun i hi => by
        show G_X11_write_12 _ _ _ _ _ = _
        have Li : lay (rI h 68 (shf (gI h 68) i)) := lay_rI L (by decide)
        rw [S_X11_write_12 Li d, if_pos ((nIl (by omega) (by omega)).mpr (by omega)), nIa, ck_pos (ib_nI (by omega) (by omega)), show nI (1468 + (i + 1)) - 1 = nI (1468 + i) from nI_pred (1468 + i), ck_pos (ib_nI (by omega) (by omega)), ix_nI (by omega), ix_nI (by omega), lt_def, gI_rIs, sI_rI, shf_s, nI_1])
      rw [shf_0, rI_self] at loop
      refine (show _ = _ from loop) ▸ ?_
      have L29 : lay (rI h 68 (shf (gI h 68) 29)) := lay_rI L (by decide)
      rw [S_X11_write_12 L29 d, if_neg (by decide), lt_def, gI_rIs, sI_rI]
      have e8 : shf (gI h 68) 29 8 - 1 = 29 := by
        unfold shf
        rw [if_neg (by omega), tw.1, e30]
        decide
      rw [e8]
      have L30 : lay (rI h 68 (va_up (shf (gI h 68) 29) 8 29)) := lay_rI L (by decide)
      have t30 : MTh true (rI h 68 (va_up (shf (gI h 68) 29) 8 29)) n W (s.1, s.2.1, s.2.2.1, s.2.2.2.1, 29, fun k => shf (gI h 68) 29 (1468 + k)) := by
        have lo : ∀ k, k < 1468 → ¬ k = 8 → va_up (shf (gI h 68) 29) 8 29 k = gI h 68 k := by
          intro k hk h8
          rw [up_o _ _ h8]
          unfold shf
          rw [if_neg (by omega)]
        obtain ⟨t0, t1, t2, t3, t4, t5, t6, t7, t8⟩ := t
        unfold MTh
        rw [gI_rIs]
        refine ⟨t0, by rw [lo _ (by omega) (by omega)]; exact t1, fun p' hp' => by rw [lo _ (by omega) (by omega)]; exact t2 p' hp', fun p' hp' => by rw [lo _ (by omega) (by omega)]; exact t3 p' hp', fun c' hc' => by rw [lo _ (by omega) (by omega)]; exact t4 c' hc', by rw [lo _ (by omega) (by omega)]; exact t5, by rw [lo _ (by omega) (by omega)]; exact t6, fun _ => by rw [up_s]; exact ⟨rfl, by show 29 ≤ 30; omega⟩, fun _ j hj => by rw [up_o _ _ (by omega)]⟩
      have f30 : MF true h (rI h 68 (va_up (shf (gI h 68) 29) 8 29)) := by
        refine ⟨sm_rI (Or.inl ⟨by decide, by decide⟩), L30, fun j hj => by rw [gI_rI' _ _ _ _ (by decide)], fun k hk => ?_⟩
        have hk' : k < 6 ∨ 22 ≤ k ∧ k < 1468 := by
          rcases hk with hk | ⟨h1, h2 | h2⟩
          · exact Or.inl hk
          · exact Or.inr ⟨h1, h2⟩
          · cases h2
        rw [gI_rIs, up_o _ _ (by omega)]
        unfold shf
        rw [if_neg (by omega)]
      obtain ⟨h', e', t', f', g'⟩ := key (some (.int (nI 30))) L30 (by omega) t30
      refine ⟨h', e', ?_, MF_trans f30 f', by rw [g', gI_rI' _ _ _ _ (by decide)]⟩
      obtain ⟨u0, u1, u2, u3, u4, u5, u6, u7, u8⟩ := t'
      refine ⟨u0, u1, u2, u3, u4, u5, u6, u7, fun q j hj => (u8 q j hj).trans ?_⟩
      show va_up (fun k => shf (gI h 68) 29 (1468 + k)) 29 _ j = va_up (fun k => s.2.2.2.2.2 (k + 1)) 29 _ j
      by_cases e : j = 29
      · subst e; rw [up_s, up_s]
      · rw [up_o _ _ e, up_o _ _ e]
        unfold shf
        rw [if_pos (by omega), show 1468 + j + 1 = 1468 + (j + 1) by omega, t.2.2.2.2.2.2.2.2 rfl _ (by omega)]
theorem m_slide {h : MH} (L : lay h) (d : Nat) {w : Bool} {n : Nat} {W : Nat → Nat} {s : TS} (t : MTh w h n W s) (hw : gI h 67 23 = bz w) {dt : Option Den} {ds : Option Den} (rl : rlM h (gI h 68 3) dt ds) (a : Int32) {i : Nat} (hi : i < n) : ∃ h', F_X11_slide (d + 9) (nI i) a h = some (.int 0, h') ∧ MTh w h' n W (slS n W ds (tb a) i s) ∧ MF w h h' ∧ gI h' 67 = gI h 67 := by
  have hn := t.1
  have tp := t.2.2.2.1 i (by omega)
  obtain ⟨h1, e1, s1⟩ := m_slidesOf L d (MQ_mdl t) t.2.2.2.2.2.1.1 t.2.2.2.2.2.1.2 rl hi
  have L1 : lay h1 := lay_F e1 L rfl
  have t1 := MQ_73 s1 t
  have f1 : MF w h h1 := MF_73 s1 L1
  have g1 : gI h1 67 = gI h 67 := sm_gI s1 (by decide) (by decide)
  have hs := sldN_le ds (nmZ n W s.1 s.2.1 s.2.2.1 (some i)) (ldZ n W s.1 s.2.1)
  have hT := slT_le (n := n) (W := W) (ds := ds) (r := tb a) tp.2
  have ez : nI (s.1 i) + stp (tb a) * nI (sldN ds (nmZ n W s.1 s.2.1 s.2.2.1 (some i)) (ldZ n W s.1 s.2.1)) = zI ((s.1 i : Int) + stz (tb a) * (sldN ds (nmZ n W s.1 s.2.1 s.2.2.1 (some i)) (ldZ n W s.1 s.2.1) : Int)) := by
    rw [stp_z, nI_zI, nI_zI, zI_mul, zI_add]
  have eT : clN ((s.1 i : Int) + stz (tb a) * (sldN ds (nmZ n W s.1 s.2.1 s.2.2.1 (some i)) (ldZ n W s.1 s.2.1) : Int)) 8 = slT n W ds (tb a) i s := by
    unfold clN slT stz
    cases tb a
    · simp only [Bool.false_eq_true, if_false]; omega
    · simp only [if_true]; omega
  have eb : -1000000 ≤ ((s.1 i : Int) + stz (tb a) * (sldN ds (nmZ n W s.1 s.2.1 s.2.2.1 (some i)) (ldZ n W s.1 s.2.1) : Int)) ∧ ((s.1 i : Int) + stz (tb a) * (sldN ds (nmZ n W s.1 s.2.1 s.2.2.1 (some i)) (ldZ n W s.1 s.2.1) : Int)) ≤ 1000000 := by
    unfold stz
    cases tb a
    · dsimp only; omega
    · dsimp only; omega
  rw [S_X11_slide L (d + 8), nIa, ck_pos (ib_nI (by omega) (by omega)), ix_nI (by omega), tp.1, lt_def, m_stepN L, cI_some, e1, cI_some, ez, zI_L (by omega) (by omega), show (8 : Int32) = nI 8 from rfl, m_cut L1 (d + 7) (MQ_mdl t1) eb.1 eb.2 (by omega), cI_some, eT, ck_pos (ib_nI (by omega) (by omega)), lt_def, ck_pos (ib_nI (by omega) (by omega)), gI_sIs, up_s]
  have f2 : MF w h1 (sI h1 68 (9 + i) (nI (slT n W ds (tb a) i s))) := MF_sI L1 (by omega)
  have t2 : MTh w (sI h1 68 (9 + i) (nI (slT n W ds (tb a) i s))) n W (va_up s.1 i (slT n W ds (tb a) i s), s.2) := by
    unfold MTh
    rw [gI_sIs]
    exact MTa_P t1 (by omega) hT
  have g2 : gI (sI h1 68 (9 + i) (nI (slT n W ds (tb a) i s))) 67 = gI h 67 := by rw [gI_sIo _ _ _ _ _ (by decide), g1]
  unfold slS
  by_cases c : slT n W ds (tb a) i s = s.1 i
  · rw [if_pos (congrArg nI c), if_pos c]
    refine ⟨_, rfl, ?_, MF_trans f1 f2, g2⟩
    rw [c] at t2 ⊢
    have : va_up s.1 i (s.1 i) = s.1 := by
      funext k
      by_cases e : k = i
      · subst e; rw [up_s]
      · rw [up_o _ _ e]
    rw [this] at t2
    exact t2
  · rw [if_neg (fun q => c ((nI_eq (by omega) (by omega)).mp q)), if_neg c]
    obtain ⟨h3, e3, t3, f3, g3⟩ := m_write f2.2.1 (d + 7) t2 (by rw [g2]; exact hw) (p := i) (f := s.1 i) (by omega) tp.2
    rw [e3, cV_some]
    refine ⟨h3, rfl, ?_, MF_trans f1 (MF_trans f2 f3), g3.trans g2⟩
    dsimp only at t3
    rw [up_s] at t3
    have : wrS (va_up s.1 i (slT n W ds (tb a) i s), s.2) i (s.1 i) (slT n W ds (tb a) i s) = (va_up (wrS s i (s.1 i) (slT n W ds (tb a) i s)).1 i (slT n W ds (tb a) i s), (wrS s i (s.1 i) (slT n W ds (tb a) i s)).2) := by
      unfold wrS
      dsimp only
      by_cases q : s.2.2.2.2.1 < 30
      · rw [if_pos q, if_pos q]
      · rw [if_neg q, if_neg q]
    rw [this] at t3
    exact t3
theorem m_slideAll {h : MH} (L : lay h) (d : Nat) {w : Bool} {n : Nat} {W : Nat → Nat} {s : TS} (t : MTh w h n W s) (hw : gI h 67 23 = bz w) {dt : Option Den} {ds : Option Den} (rl : rlM h (gI h 68 3) dt ds) (l1 a : Int32) : ∃ h' o2 o3, G_X11_pass_40 (d + 9) l1 a 0 h = G_X11_pass_52 (d + 9) l1 o2 o3 h' ∧ MTh w h' n W (itr (slS n W ds (tb a)) s n) ∧ MF w h h' ∧ gI h' 67 = gI h 67 := by
  have hn := t.1
  obtain ⟨k, ⟨i1, i2, i3⟩, e⟩ := loop_rel (n := n) (σ := MH) (I := fun i k => MTh w k n W (itr (slS n W ds (tb a)) s i) ∧ MF w h k ∧ gI k 67 = gI h 67) (G := fun i k => G_X11_pass_40 (d + 9) l1 a (nI i) k) (s := h) (fun i k hi ⟨ti, fi, gi⟩ => by
    obtain ⟨h', e', t', f', g'⟩ := m_slide fi.2.1 d ti (by rw [gi]; exact hw) (MF_rl fi rl) a hi
    refine ⟨h', ⟨t', MF_trans fi f', g'.trans gi⟩, ?_⟩
    show G_X11_pass_40 _ _ _ _ _ = G_X11_pass_40 _ _ _ _ _
    rw [S_X11_pass_40 fi.2.1 (d + 9), ti.2.1, if_pos (nI_lt hi (by omega)), e', cV_some, nI_1]) ⟨t, MF_refl L, rfl⟩
  refine ⟨k, some (.int a), some (.int (nI n)), ?_, i1, i2, i3⟩
  refine e.trans ?_
  show G_X11_pass_40 _ _ _ _ _ = _
  rw [S_X11_pass_40 i2.2.1 (d + 9), i1.2.1, if_neg (nI_nlt (Nat.le_refl _) (by omega))]
theorem m_pass {h : MH} (L : lay h) (d : Nat) {w : Bool} {n : Nat} {W : Nat → Nat} {s : TS} (t : MTh w h n W s) (hw : gI h 67 23 = bz w) {dt : Option Den} {ds : Option Den} (rl : rlM h (gI h 68 3) dt ds) (hH : s.2.2.1 < 9999) : ∃ h', F_X11_pass (d + 10) h = some (.int 0, h') ∧ MTh w h' n W (passS n W dt ds s) ∧ MF w h h' ∧ gI h' 67 24 = gI h 67 24 + bz (slipS n W dt s) := by
  have tx := t.2.2.2.2.2.2.1
  have hc : s.2.2.2.1 % 9 < 9 := Nat.mod_lt _ (by decide)
  obtain ⟨h1, e1, t1, f1, g1⟩ := m_anew L (d + 7) t
  have tc := t1.2.2.2.2.1 (s.2.2.2.1 % 9) hc
  dsimp only at tc
  have tip : -468 ≤ tipZ n W (snS s).1 (snS s).2.1 ∧ tipZ n W (snS s).1 (snS s).2.1 ≤ 468 := by
    refine tip_bd t.1 (fun p hp => (t.2.2.1 p hp).2) (fun p hp => by rw [snS_P]; exact (t.2.2.2.1 p (by have := t.1; omega)).2) (fun c hc => ?_)
    unfold snS
    dsimp only
    by_cases e : c = s.2.2.2.1 % 9
    · subst e; rw [up_s]; omega
    · rw [up_o _ _ e]; exact (t.2.2.2.2.1 c hc).2
  have eS : (snS s).2.2.1 = s.2.2.1 := snS_H s
  have fin : ∀ {k : MH} {u : TS} (l1 : Int32) (o2 o3 : Option Value), lay k → MTh w k n W u → u.2.2.1 < 9999 → ∃ h', G_X11_pass_52 (d + 9) l1 o2 o3 k = some (.int 0, h') ∧ MTh w h' n W (u.1, u.2.1, u.2.2.1 + 1, u.2.2.2) ∧ MF w k h' ∧ gI h' 67 = gI k 67 := by
    intro k u l1 o2 o3 Lk tk hu
    rw [S_X11_pass_52 Lk (d + 9), lt_def, tk.2.2.2.2.2.1.1, nI_1]
    refine ⟨_, rfl, ?_, MF_sI Lk (by omega), by rw [gI_sIo _ _ _ _ _ (by decide)]⟩
    unfold MTh
    rw [gI_sIs]
    exact MTa_H tk (by omega)
  have rest : ∀ {k : MH} (l1 : Int32), lay k → MTh w k n W (snS s) → MF w h k → gI k 67 = gI h 67 → ∃ h', G_X11_pass_22 (d + 9) l1 k = some (.int 0, h') ∧ MTh w h' n W (passS n W dt ds s) ∧ MF w h h' ∧ gI h' 67 24 = gI h 67 24 + bz (slipS n W dt s) := by
    intro k l1 Lk tk fk gk
    obtain ⟨h2, e2, t2, f2, g2⟩ := m_stl Lk d tk (MF_rl fk rl)
    rw [S_X11_pass_22 Lk (d + 9), e2, cI_some]
    unfold passS sldS slipS
    cases hs : stl n W (snS s).1 (snS s).2.1 (snS s).2.2.1 dt with
    | true =>
      rw [if_pos (show bz (!true) = 0 from rfl)]
      obtain ⟨h3, e3, t3, f3, g3⟩ := fin l1 none none f2.2.1 t2 (by rw [eS]; exact hH)
      refine ⟨h3, e3, t3, MF_trans fk (MF_trans f2 f3), ?_⟩
      rw [g3, g2, gk]
      exact (Int32.add_zero _).symm
    | false =>
      rw [if_neg (show ¬ bz (!false) = 0 from bz1), m_tipNow f2.2.1 (d + 6) (MQ_mdl t2), cI_some]
      have hH' : ∀ (r : Bool) (k : Nat), (itr (slS n W ds r) (snS s) k).2.2.1 = s.2.2.1 := by
        intro r k
        induction k with
        | zero => exact snS_H s
        | succ k ih =>
          rw [itr]
          unfold slS
          split
          · exact ih
          · show (wrS _ _ _ _).2.2.1 = _
            unfold wrS
            split <;> exact ih
      have go : ∀ a : Int32, tb a = decide (0 < tipZ n W (snS s).1 (snS s).2.1) → ∃ h', G_X11_pass_31 (d + 9) l1 a h2 = some (.int 0, h') ∧ MTh w h' n W ((itr (slS n W ds (decide (0 < tipZ n W (snS s).1 (snS s).2.1))) (snS s) n).1, (itr (slS n W ds (decide (0 < tipZ n W (snS s).1 (snS s).2.1))) (snS s) n).2.1, (itr (slS n W ds (decide (0 < tipZ n W (snS s).1 (snS s).2.1))) (snS s) n).2.2.1 + 1, (itr (slS n W ds (decide (0 < tipZ n W (snS s).1 (snS s).2.1))) (snS s) n).2.2.2) ∧ MF w h h' ∧ gI h' 67 24 = gI h 67 24 + 1 := by
        intro a ea
        have f3 : MF w h2 (sI h2 67 24 (gI h2 67 24 + 1)) := by
          refine ⟨sm_rI (Or.inl ⟨by decide, by decide⟩), layI f2.2.1 (by decide), fun j hj => ?_, fun j hj => ?_⟩
          · rw [gI_sIs, up_o _ _ hj]
          · rw [gI_sIo _ _ _ _ _ (by decide)]
        have t3 : MTh w (sI h2 67 24 (gI h2 67 24 + 1)) n W (snS s) := by
          unfold MTh
          rw [gI_sIo _ _ _ _ _ (by decide)]
          exact t2
        obtain ⟨h4, o2, o3, e4, t4, f4, g4⟩ := m_slideAll f3.2.1 d t3 (by rw [gI_sIs, up_o _ _ (by decide), g2, gk]; exact hw) (MF_rl f3 (MF_rl f2 (MF_rl fk rl))) l1 a
        rw [ea] at t4
        obtain ⟨h5, e5, t5, f5, g5⟩ := fin l1 o2 o3 f4.2.1 t4 (by rw [hH']; exact hH)
        rw [S_X11_pass_31 f2.2.1 (d + 9), lt_def, e4, e5]
        refine ⟨h5, rfl, t5, MF_trans fk (MF_trans f2 (MF_trans f3 (MF_trans f4 f5))), ?_⟩
        rw [g5, g4, gI_sIs, up_s, g2, gk]
      by_cases c0 : 0 < tipZ n W (snS s).1 (snS s).2.1
      · rw [if_neg (fun q => by rw [show (0 : Int32) = zI 0 by decide +kernel, zI_le (by omega) (by omega)] at q; omega)]
        exact go 1 (by rw [decide_eq_true c0]; rfl)
      · rw [if_pos (by rw [show (0 : Int32) = zI 0 by decide +kernel, zI_le (by omega) (by omega)]; omega)]
        exact go 0 (by rw [decide_eq_false c0]; rfl)
  rw [S_X11_pass L (d + 9), S_X11_drawnBy L (d + 8), ck_pos (by decide), tx.1, lt_def, nIr (by omega) (by omega) (by omega), e1, cV_some, cI_some, nIa, ck_pos (ib_nI (by omega) (by omega)), ix_nI (by omega), tc.1]
  by_cases c9 : s.2.1 (s.2.2.2.1 % 9) < 9
  · rw [if_pos ((nIl (by omega) (by omega)).mpr c9), ck_pos (ib_nI (by omega) (by omega)), ck_pos (ib_nI (by omega) (by omega)), lt_def, nI_1]
    have f2 : MF w h1 (sI h1 68 (13 + s.2.2.2.1 % 9) (nI (s.2.1 (s.2.2.2.1 % 9) + 1))) := MF_sI f1.2.1 (by omega)
    refine rest _ f2.2.1 ?_ (MF_trans f1 f2) (by rw [gI_sIo _ _ _ _ _ (by decide), g1])
    have := MTa_S (c := s.2.2.2.1 % 9) (v := s.2.1 (s.2.2.2.1 % 9) + 1) t1 hc (by omega)
    dsimp only at this
    unfold MTh snS
    rw [gI_sIs, show min (s.2.1 (s.2.2.2.1 % 9) + 1) 9 = s.2.1 (s.2.2.2.1 % 9) + 1 by omega]
    exact this
  · rw [if_neg (fun q => c9 ((nIl (by omega) (by omega)).mp q))]
    refine rest _ f1.2.1 ?_ f1 g1
    have e9 : va_up s.2.1 (s.2.2.2.1 % 9) (min (s.2.1 (s.2.2.2.1 % 9) + 1) 9) = s.2.1 := by
      funext k
      by_cases e : k = s.2.2.2.1 % 9
      · subst e; rw [up_s]; omega
      · rw [up_o _ _ e]
    unfold snS
    rw [e9]
    exact t1
theorem m_happens {h : MH} (L : lay h) (d : Nat) {w : Bool} {n : Nat} {W : Nat → Nat} {s : TS} (t : MTh w h n W s) (hw : gI h 67 23 = bz w) {dt : Option Den} {ds : Option Den} (rl : rlM h (gI h 68 3) dt ds) {x : Nat} (hx : x ≤ 30840) : ∃ h', F_X11_happens (d + 11) (nI x) h = some (.int 0, h') ∧ MTh w h' n W (hapS n W dt ds x s) ∧ MF w h h' := by
  have hn := t.1
  have hm : x % 6 < 6 := Nat.mod_lt _ (by decide)
  have hc : x / 6 % 9 < 9 := Nat.mod_lt _ (by decide)
  have e6 : nI x - nI x / 6 * 6 = nI (x % 6) := nIr (by omega) (by omega) (by omega)
  have e7 : nI x / 6 = nI (x / 6) := nId (by omega) (by omega) (by omega)
  have e8 : nI (x / 6) - nI (x / 6) / 9 * 9 = nI (x / 6 % 9) := nIr (by omega) (by omega) (by omega)
  rw [S_X11_happens L (d + 10), e6, e7, e8, lt_def, t.2.1]
  -- a walk
  have walk : ∀ (a : Int32), tb a = decide (x % 6 = 1) → ¬ n = 0 → ¬ x % 6 = 2 → x % 6 ≤ 3 → ¬ x % 6 = 3 → ∃ h', G_X11_happens_29 (d + 10) (nI x) (nI n) (nI (x / 6 % 9)) a (nI (x % n)) h = some (.int 0, h') ∧ MTh w h' n W (hapS n W dt ds x s) ∧ MF w h h' := by
    intro a ea c0 c2 c3 c4
    have hp : x % n < n := Nat.mod_lt _ (by omega)
    unfold hapS
    rw [if_neg c2, if_pos c3, if_neg c0, if_neg c4, ← ea]
    obtain ⟨h1, e1, t1, f1, g1⟩ := m_canWalk L d t rl hp a
    rw [S_X11_happens_29 L (d + 10), e1, cI_some]
    cases hg : goS n W dt s (x % n) (tb a) with
    | none => exact ⟨h1, rfl, t1, f1⟩
    | some s' =>
      unfold goS at hg
      rw [stepP_V] at hg
      cases hv : stepV (s.1 (x % n)) (tb a) with
      | none => rw [hv] at hg; cases hg
      | some v =>
        rw [hv] at hg
        dsimp only [Option.map] at hg
        cases hst : stl n W (va_up s.1 (x % n) v) s.2.1 s.2.2.1 dt with
        | true =>
          rw [hst] at hg
          cases hg
          obtain ⟨h2, e2, t2, f2, g2⟩ := m_move f1.2.1 (d + 8) t1 (by omega) hv
          rw [if_neg (oz1 _), ck_pos (nI_ne0 (by omega) (by omega)), nIr (by omega) (by omega) (by omega), pk_rem (by omega) (by omega) (by omega)]
          by_cases c1 : x % 6 = 1
          · have a1 : ¬ a = 0 := fun q => by rw [tb0 q, decide_eq_true c1] at ea; cases ea
            rw [if_pos (show nI (x % 6) = 1 by rw [c1]; rfl), S_X11_happens_43 f1.2.1 (d + 10)]
            obtain ⟨h2, e2, t2, f2, g2⟩ := m_move f1.2.1 (d + 8) t1 (a := 1) (by omega) (show stepV (s.1 (x % n)) (tb 1) = some v by rw [show tb 1 = tb a by rw [tb1 a1]; rfl]; exact hv)
            rw [e2, cV_some]
            exact ⟨h2, rfl, t2, MF_trans f1 f2⟩
          · have a0 : a = 0 := Classical.byContradiction fun q => by rw [tb1 q, decide_eq_false c1] at ea; cases ea
            subst a0
            rw [if_neg (fun q => c1 ((nIe (by omega) (by omega)).mp q)), S_X11_happens_43 f1.2.1 (d + 10), e2, cV_some]
            exact ⟨h2, rfl, t2, MF_trans f1 f2⟩
        | false => rw [hst] at hg; cases hg
  by_cases c0' : x % 6 = 0
  · rw [if_pos (show nI (x % 6) = 0 by rw [c0']; rfl)]
    by_cases c0 : n = 0
    · rw [if_pos (show nI n ≤ 0 by rw [c0]; decide)]
      unfold hapS
      rw [if_neg (by omega), if_pos (by omega), if_pos c0]
      exact ⟨h, rfl, t, MF_refl L⟩
    · rw [if_neg (nI_nle (by omega) (by omega)), ck_pos (nI_ne0 (by omega) (by omega)), if_neg (fun q => by have := (nIe (by omega) (by omega)).mp q; omega), pk_rem (by omega) (by omega) (by omega)]
      exact walk 0 (by rw [decide_eq_false (by omega)]; rfl) c0 (by omega) (by omega) (by omega)
  rw [if_neg (fun q => c0' ((nIe (by omega) (by omega)).mp q))]
  by_cases c1' : x % 6 = 1
  · rw [if_pos (show nI (x % 6) = 1 by rw [c1']; rfl)]
    by_cases c0 : n = 0
    · rw [if_pos (show nI n ≤ 0 by rw [c0]; decide)]
      unfold hapS
      rw [if_neg (by omega), if_pos (by omega), if_pos c0]
      exact ⟨h, rfl, t, MF_refl L⟩
    · rw [if_neg (nI_nle (by omega) (by omega)), ck_pos (nI_ne0 (by omega) (by omega)), if_pos (show nI (x % 6) = 1 by rw [c1']; rfl), pk_rem (by omega) (by omega) (by omega)]
      exact walk 1 (by rw [decide_eq_true c1']; rfl) c0 (by omega) (by omega) (by omega)
  rw [if_neg (fun q => c1' ((nIe (by omega) (by omega)).mp q))]
  unfold hapS
  by_cases c2 : x % 6 = 2
  · rw [if_pos (show nI (x % 6) = 2 by rw [c2]; rfl), if_pos c2]
    obtain ⟨h1, e1, t1, f1, g1⟩ := m_canShovel L d t rl (c := x / 6 % 9) (k := 1) hc (by omega) (by omega)
    have e1' : F_X11_canShovel (d + 10) (nI (x / 6 % 9)) 1 h = _ := e1
    rw [e1', cI_some]
    have tc := t1.2.2.2.2.1 (x / 6 % 9) hc
    unfold clearS
    by_cases q1 : s.2.1 (x / 6 % 9) < 1
    · rw [if_pos q1]
      exact ⟨h1, rfl, t1, f1⟩
    · rw [if_neg q1]
      cases hst : stl n W s.1 (va_up s.2.1 (x / 6 % 9) (s.2.1 (x / 6 % 9) - 1)) s.2.2.1 dt with
      | false => exact ⟨h1, rfl, t1, f1⟩
      | true =>
        rw [if_neg (show ¬ oz (cond true _ _) = 0 from oz1 _), nIa, ck_pos (ib_nI (by omega) (by omega)), ck_pos (ib_nI (by omega) (by omega)), ix_nI (by omega), lt_def, tc.1, show (1 : Int32) = nI 1 from rfl, pk_sub (by omega)]
        refine ⟨_, rfl, ?_, MF_trans f1 (MF_sI f1.2.1 (by omega))⟩
        unfold MTh
        rw [gI_sIs]
        exact MTa_S t1 hc (by omega)
  rw [if_neg (fun q => c2 ((nIe (by omega) (by omega)).mp q)), if_neg c2]
  by_cases c3 : x % 6 = 3
  · rw [if_pos (show nI (x % 6) = 3 by rw [c3]; rfl), if_pos (show x % 6 ≤ 3 by omega)]
    by_cases c0 : n = 0
    · rw [if_pos (show nI n = 0 by rw [c0]; rfl), if_pos c0]
      exact ⟨h, rfl, t, MF_refl L⟩
    · have hp : x % n < n := Nat.mod_lt _ (by omega)
      have hp2 : x / 6 % n < n := Nat.mod_lt _ (by omega)
      rw [if_neg (nI_ne0 (by omega) (by omega)), if_neg c0, if_pos c3, ck_pos (nI_ne0 (by omega) (by omega)), ck_pos (nI_ne0 (by omega) (by omega)), pk_rem (by omega) (by omega) (by omega), pk_rem (by omega) (by omega) (by omega)]
      obtain ⟨h1, e1, t1, f1, g1⟩ := m_canPair L d t rl hp hp2 0 1
      have e1' : F_X11_canPair (d + 10) (nI (x % n)) 0 (nI (x / 6 % n)) 1 h = some (.int (oz (pairS n W dt s (x % n) false (x / 6 % n) true)), h1) := e1
      rw [e1', cI_some]
      cases hg : pairS n W dt s (x % n) false (x / 6 % n) true with
      | none => exact ⟨h1, rfl, t1, f1⟩
      | some s' =>
        unfold pairS at hg
        split at hg
        · cases hg
        rename_i hpp
        rw [stepP_V] at hg
        cases hv : stepV (s.1 (x % n)) false with
        | none => rw [hv] at hg; cases hg
        | some v =>
          rw [hv] at hg
          dsimp only [Option.map] at hg
          rw [stepP_V, up_o _ _ (fun q => hpp q.symm)] at hg
          cases hv2 : stepV (s.1 (x / 6 % n)) true with
          | none => rw [hv2] at hg; cases hg
          | some v2 =>
            rw [hv2] at hg
            dsimp only [Option.map] at hg
            cases hst : stl n W (va_up (va_up s.1 (x % n) v) (x / 6 % n) v2) s.2.1 s.2.2.1 dt with
            | true =>
              rw [hst] at hg
              cases hg
              obtain ⟨h2, e2, t2, f2, g2⟩ := m_move f1.2.1 (d + 8) t1 (a := 0) (by omega) hv
              obtain ⟨h3, e3, t3, f3, g3⟩ := m_move f2.2.1 (d + 8) t2 (p := x / 6 % n) (v := v2) (a := 1) (by omega) (by
                show stepV (va_up s.1 (x % n) v (x / 6 % n)) true = _
                rw [up_o _ _ (fun q => hpp q.symm)]; exact hv2)
              rw [if_neg (oz1 _), ck_pos (nI_ne0 (by omega) (by omega)), e2, cV_some, ck_pos (nI_ne0 (by omega) (by omega)), e3, cV_some]
              exact ⟨h3, rfl, t3, MF_trans f1 (MF_trans f2 f3)⟩
            | false => rw [hst] at hg; cases hg
  · rw [if_neg (fun q => c3 ((nIe (by omega) (by omega)).mp q)), if_neg (show ¬ x % 6 ≤ 3 by omega), t.2.2.2.2.2.1.1]
    by_cases c6 : s.2.2.1 < 9999
    · rw [if_pos ((nIl (by have := t.2.2.2.2.2.1.2; omega) (by omega)).mpr c6), if_pos c6]
      obtain ⟨h1, e1, t1, f1, g1⟩ := m_pass L d t hw rl c6
      rw [e1, cV_some]
      exact ⟨h1, rfl, t1, f1⟩
    · rw [if_neg (fun q => c6 ((nIl (by have := t.2.2.2.2.2.1.2; omega) (by omega)).mp q)), if_neg c6]
      exact ⟨h, rfl, t, MF_refl L⟩
end MHOURS
