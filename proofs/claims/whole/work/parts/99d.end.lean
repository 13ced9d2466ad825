--deps:19.lay 21.facts 22.00.names 22.01.eq 22.02.eq 22.03.eq 22.04.eq 22.05.eq 22.06.eq 22.07.eq 22.08.eq 22.09.eq 22.10.eq 22.11.eq 22.12.eq 22.13.eq 22.14.eq 22.15.eq 22.16.eq 22.17.eq 22.18.eq 22.19.eq 22.20.eq 22.21.eq 22.22.eq 22.23.eq 23.num 24.town 25.evc 26.evm 27.law 28.says 29.inv 30.api1 31.copy 49.image 66.script 67.law 68.inits 69.init2 70.init3 97.text 98.text2 99.init4 99b.start 99c.law
/-! THE LAW HOLDS: the end -/
set_option linter.unusedSectionVars false
theorem alL_no : ∀ (l : List (Nat × Nat × Nat × Nat)) (m a : Nat), m + cnA l ≤ a → alL m l a = none := by
  intro l
  induction l with
  | nil => intro m a _; rfl
  | cons o l ih =>
    intro m a h
    rw [cnA] at h
    obtain ⟨t, x, y, z⟩ := o
    match t with
    | 0 =>
      have h' : m + (1 + cnA l) ≤ a := h
      show (if a = m then some (x, y) else alL (m + 1) l a) = none
      rw [if_neg (by omega)]
      exact ih (m + 1) a (by omega)
    | 1 => exact ih m a (by have h' : m + (0 + cnA l) ≤ a := h; omega)
    | 2 => exact ih m a (by have h' : m + (0 + cnA l) ≤ a := h; omega)
    | _ + 3 => exact ih m a (by have h' : m + (0 + cnA l) ≤ a := h; omega)
theorem no4 : ∀ a, a < 84 → ¬ cKD a = 4 := by decide +kernel
theorem c_l0 : cnA ([(0, 11, 7, 0)] ++ oi8 8 9) = 59 := by decide +kernel
theorem t_sk (L : Nat) (xs : Nat → Int32) : sk xs L (hT L xs) := by
  have mn : mN (hT L xs) = 84 := by
    unfold hT
    rw [mN_rIx]
    unfold hS
    rw [mN_ops, q_cn.1, show mN (mh0 L xs) = 8 from rfl]
  have fr : frs (hT L xs) := by
    intro a ha
    have e := congrArg Prod.fst (s_al L xs a)
    rw [alL_no l1 8 a (by rw [q_cn.1]; omega)] at e
    unfold hT
    rw [kd_rIx]
    unfold hS
    rw [show kd (opsH (mh0 L xs) l1) a = x0k a from e]
    unfold x0k
    split <;> first | omega | rfl
  refine ⟨tt_lay L xs, ?_, ?_, fr, fun l hl => ?_⟩
  · have e := congrArg Prod.snd (s_al L xs 1)
    rw [show alL 8 l1 1 = none by decide +kernel] at e
    unfold hT
    rw [ln_rIx]
    unfold hS
    exact e
  · rw [t_I L xs (by decide)]
    unfold hS
    exact s_old L xs (a := 1) (by decide +kernel) (by decide +kernel)
  · exfalso
    rcases Nat.lt_or_ge l 84 with c | c
    · exact no4 l c (((tt_lay L xs).2.1 l c).symm.trans hl)
    · rw [fr l (by omega)] at hl
      cases hl
theorem loop87 (d : Nat) {Y : MH} (k1 : kd Y 67 = 12) (r1 : gR Y 67 0 = 68) (r2 : gR Y 67 1 = 69) (k2 : kd Y 68 = 20) (l2 : ln Y 68 = 1498) : mX (mE mtab d) KX11_init 87 [some (.ref 67), some (.int 0)] [] Y = cV (mE mtab d 9 [.ref 68, .ref 69] (sI (sI (sI (sI Y 68 30 (-1)) 68 31 (-1)) 68 32 (-1)) 68 33 (-1))) (fun h40 => some (.int 0, h40)) := by
  have st : ∀ (Z : MH) (p : Nat), p < 4 → kd Z 67 = 12 → gR Z 67 0 = 68 → kd Z 68 = 20 → ln Z 68 = 1498 → mX (mE mtab d) KX11_init 87 [some (.ref 67), some (.int (nI p))] [] Z = mX (mE mtab d) KX11_init 87 [some (.ref 67), some (.int (nI (p + 1)))] [] (sI Z 68 (30 + p) (-1)) := by
    intro Z p hp a1 a2 a3 a4
    rw [D_X11_init_87, if_pos (by rw [nIl (by omega) (by decide)]; exact hp), ck_pos a1, a2, a3, a4, nIa, ck_pos ⟨rfl, ib_nI (by show 30 + p < 1498; omega) (by omega)⟩, ix_nI (by show 30 + p < 2 ^ 31; omega), lt_def, nI_1]
  rw [show (0 : Int32) = nI 0 from rfl, st Y 0 (by omega) k1 r1 k2 l2, st _ 1 (by omega) (by rw [kd_sI]; exact k1) (by rw [gR_sI]; exact r1) (by rw [kd_sI]; exact k2) (by rw [ln_sI]; exact l2), st _ 2 (by omega) (by rw [kd_sI, kd_sI]; exact k1) (by rw [gR_sI, gR_sI]; exact r1) (by rw [kd_sI, kd_sI]; exact k2) (by rw [ln_sI, ln_sI]; exact l2), st _ 3 (by omega) (by rw [kd_sI, kd_sI, kd_sI]; exact k1) (by rw [gR_sI, gR_sI, gR_sI]; exact r1) (by rw [kd_sI, kd_sI, kd_sI]; exact k2) (by rw [ln_sI, ln_sI, ln_sI]; exact l2), D_X11_init_87, if_neg (by decide), kd_sI, kd_sI, kd_sI, kd_sI, k1, ck_pos rfl, ck_pos rfl, gR_sI, gR_sI, gR_sI, gR_sI, r1, r2]
  rfl
theorem q_y : (alL 8 l0 67 = some (12, 33) ∧ alL 8 l0 68 = some (20, 1498)) ∧ rdR 8 l0 67 0 0 = 68 ∧ rdR 8 l0 67 1 0 = 69 := by decide +kernel
theorem ops_c12 (Z : MH) (l : List (Nat × Nat × Nat × Nat)) : opsH (mA Z 12 33) l = opsH Z ([(0, 12, 33, 0)] ++ l) := rfl
theorem ops_c11 (Z : MH) (l : List (Nat × Nat × Nat × Nat)) : opsH (mA Z 11 7) l = opsH Z ([(0, 11, 7, 0)] ++ l) := rfl
theorem ops_4 (Z : MH) : opsH Z [(3, 68, 30, 0), (3, 68, 31, 0), (3, 68, 32, 0), (3, 68, 33, 0)] = sI (sI (sI (sI Z 68 30 (-1)) 68 31 (-1)) 68 32 (-1)) 68 33 (-1) := rfl
theorem law_ok : lawOK := by
  intro L xs hL
  obtain ⟨hA, eA⟩ : ∃ hA, hA = opsH (mh0 L xs) ([(0, 11, 7, 0)] ++ oi8 8 9) := ⟨_, rfl⟩
  have mA_ : mN hA = 67 := by rw [eA, mN_ops, c_l0]; rfl
  have e8 : mE mtab 100 8 [.ref 8] (mA (mh0 L xs) 11 7) = some (.int 0, hA) := by
    have := i8 97 (h := mA (mh0 L xs) 11 7) (a0 := 8) (m := 9) rfl (by decide) (by decide) (by rw [kd_mA]; rfl)
    rw [ops_c11, ← eA] at this
    exact this
  obtain ⟨Y, eY⟩ : ∃ Y, Y = opsH (mh0 L xs) l0 := ⟨_, rfl⟩
  have eY2 : opsH (mA hA 12 33) oiX = Y := by
    rw [eY, eA, ops_c12, opsH_app, List.append_assoc, l0]
  have k67 : kd (mA hA 12 33) 67 = 12 := by rw [kd_mA, if_pos mA_.symm]
  have e10 := i10m 99 (h := mA hA 12 33) (by rw [mN_mA, mA_]) k67
  have a67 := al_ops 67 l0 (mh0 L xs)
  have a68 := al_ops 68 l0 (mh0 L xs)
  rw [show mN (mh0 L xs) = 8 from rfl, q_y.1.1, ← eY] at a67
  rw [show mN (mh0 L xs) = 8 from rfl, q_y.1.2, ← eY] at a68
  have y1 : kd Y 67 = 12 := congrArg Prod.fst a67
  have y2 : kd Y 68 = 20 := congrArg Prod.fst a68
  have y3 : ln Y 68 = 1498 := congrArg Prod.snd a68
  have y4 : gR Y 67 0 = 68 := by rw [eY, rd_R]; exact q_y.2.1
  have y5 : gR Y 67 1 = 69 := by rw [eY, rd_R]; exact q_y.2.2
  have eS : sI (sI (sI (sI Y 68 30 (-1)) 68 31 (-1)) 68 32 (-1)) 68 33 (-1) = hS L xs := by
    unfold hS l1
    rw [← opsH_app, ← eY, ops_4]
  have LS : lay (hS L xs) := by unfold hS; exact s_lay L xs
  have cp : mE mtab 99 9 [.ref 68, .ref 69] (hS L xs) = some (.int 0, hT L xs) := m_copy LS 98 (x := 68) (y := 69) ⟨LS.2.1 68 (by decide), LS.2.2.1 68 (by decide) (by decide)⟩ ⟨LS.2.1 69 (by decide), LS.2.2.1 69 (by decide) (by decide)⟩ (by decide) (by decide)
  have e10' : mE mtab 100 10 [.ref 67] (mA hA 12 33) = some (.int 0, hT L xs) := by
    rw [e10, eY2, loop87 99 y1 y4 y5 y2 y3, eS, cp, cV_some]
  obtain ⟨hF, f1, f2⟩ := law_loop 87 (TXT_all 87 (by decide)) hL 64 0 0 (hT L xs) rfl (Nat.le_refl _) (t_INV L xs) (t_sk L xs)
  refine ⟨hF, ?_, ?_, ?_⟩
  · rw [D_L_law, lt_def, show mN (mh0 L xs) = 8 from rfl, ck_pos (by rw [kd_mA]; rfl), e8, cV_some, lt_def, lt_def, mA_, ck_pos k67, e10', cV_some, lt_def]
    exact f1
  · have := f2.2.2.2.1
    omega
  · have := f2.2.2.2.2
    omega
