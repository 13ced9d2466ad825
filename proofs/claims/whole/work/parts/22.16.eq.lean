--deps:19.lay 21.facts 22.00.names
/-! EQUATIONS over the fixed cells (written by wip/gen/sgen.py) -/
theorem S_X5_goingToGoals_19 {h : MH} (L : lay h) (d : Nat) (l1 : Int32) (l2 : Int32) (l3 : Int32) (l4 : Int32) : G_X5_goingToGoals_19 d l1 l2 l3 l4 h = (if l4 ≤ l1 then ck (ib l3 6561) (some (.int ((gI h 61 (ix l3)) - (gI h 61 (ix l3)) / 64 * 64), h)) else ck (ib l3 6561) (lt_ ((gI h 61 (ix l3)) / 64) fun v6 => G_X5_goingToGoals_19 d l1 l2 v6 (l4 + (-1)) h)) := by
  refine mX_to 2 (k' := 21) (ls' := [some (.ref 60), some (.int l1), some (.int l2), some (.int l3), some (.int l4)]) (st' := [.int l1, .int l4]) (h' := h) rfl ?_
  refine mX_br (t := 31) (f := 22) (ls' := [some (.ref 60), some (.int l1), some (.int l2), some (.int l3), some (.int l4)]) (st' := []) (h' := h) rfl ?_ ?_
  · refine mX_to 1 (k' := 32) (ls' := [some (.ref 60), some (.int l1), some (.int l2), some (.int l3), some (.int l4)]) (st' := [.ref 60]) (h' := h) rfl ?_
    refine mX_ckv (v := .ref (gR h 60 0)) (v' := .ref 61) (k' := 33) (ls' := [some (.ref 60), some (.int l1), some (.int l2), some (.int l3), some (.int l4)]) (st' := []) (h' := h) (k_60 L) (congrArg Value.ref (r_60_0 L)) rfl ?_
    refine mX_to 1 (k' := 34) (ls' := [some (.ref 60), some (.int l1), some (.int l2), some (.int l3), some (.int l4)]) (st' := [.int l3, .ref 61]) (h' := h) rfl ?_
    refine mX_ckw (v := .int (gI h 61 (ix l3))) (v' := .int (gI h 61 (ix l3))) (k' := 35) (ls' := [some (.ref 60), some (.int l1), some (.int l2), some (.int l3), some (.int l4)]) (st' := []) (h' := h) (ckA1 (k_61 L) (n_61 L)) rfl rfl fun c5 => ?_
    refine mX_to 1 (k' := 36) (ls' := [some (.ref 60), some (.int l1), some (.int l2), some (.int l3), some (.int l4)]) (st' := [.int 64, .int (gI h 61 (ix l3))]) (h' := h) rfl ?_
    refine mX_ckt (c := ¬ (64 : Int32) = 0) (k' := 37) (ls' := [some (.ref 60), some (.int l1), some (.int l2), some (.int l3), some (.int l4)]) (st' := [.int ((gI h 61 (ix l3)) - (gI h 61 (ix l3)) / 64 * 64)]) (h' := h) (by decide) rfl ?_
    exact mX_reti rfl
  · refine mX_to 1 (k' := 23) (ls' := [some (.ref 60), some (.int l1), some (.int l2), some (.int l3), some (.int l4)]) (st' := [.ref 60]) (h' := h) rfl ?_
    refine mX_ckv (v := .ref (gR h 60 0)) (v' := .ref 61) (k' := 24) (ls' := [some (.ref 60), some (.int l1), some (.int l2), some (.int l3), some (.int l4)]) (st' := []) (h' := h) (k_60 L) (congrArg Value.ref (r_60_0 L)) rfl ?_
    refine mX_to 1 (k' := 25) (ls' := [some (.ref 60), some (.int l1), some (.int l2), some (.int l3), some (.int l4)]) (st' := [.int l3, .ref 61]) (h' := h) rfl ?_
    refine mX_ckw (v := .int (gI h 61 (ix l3))) (v' := .int (gI h 61 (ix l3))) (k' := 26) (ls' := [some (.ref 60), some (.int l1), some (.int l2), some (.int l3), some (.int l4)]) (st' := []) (h' := h) (ckA1 (k_61 L) (n_61 L)) rfl rfl fun c7 => ?_
    refine mX_to 1 (k' := 27) (ls' := [some (.ref 60), some (.int l1), some (.int l2), some (.int l3), some (.int l4)]) (st' := [.int 64, .int (gI h 61 (ix l3))]) (h' := h) rfl ?_
    refine mX_ckt (c := ¬ (64 : Int32) = 0) (k' := 28) (ls' := [some (.ref 60), some (.int l1), some (.int l2), some (.int l3), some (.int l4)]) (st' := [.int ((gI h 61 (ix l3)) / 64)]) (h' := h) (by decide) rfl ?_
    refine lt_gen (X := fun v6 : Int32 => mX (mE mtab d) KX5_goingToGoals 28 [some (.ref 60), some (.int l1), some (.int l2), some (.int l3), some (.int l4)] [.int v6] h) fun v6 => ?_
    refine mX_to 3 (k' := 19) (ls' := [some (.ref 60), some (.int l1), some (.int l2), some (.int v6), some (.int (l4 + (-1)))]) (st' := []) (h' := h) rfl ?_
    rfl
theorem S_X5_goingToGoals {h : MH} (L : lay h) (d : Nat) (a1 : Int32) : F_X5_goingToGoals (d + 1) a1 h = cI (F_X5_goingsToGoals d h) (fun x2 h1 => cI (F_X10_within d a1 0 (x2 - 1) h1) (fun x4 h3 => (if x4 = 0 then some (.int (-2), h3) else G_X5_goingToGoals_19 d a1 x2 (gI h3 60 3) (x2 - 1) h3))) := by
  refine mE_eq (q := (yX5_goingToGoals, cX5_goingToGoals, 5, (some .int), KX5_goingToGoals)) (C := KX5_goingToGoals) (ls := [some (.ref 60), some (.int a1), none, none, none]) rfl rfl rfl rfl ?_
  refine mX_to 1 (k' := 1) (ls' := [some (.ref 60), some (.int a1), none, none, none]) (st' := [.ref 60]) (h' := h) rfl ?_
  refine mX_ckct (m := mcl (mE mtab d 240 [.ref 60] h) 1 2 [some (.ref 60), some (.int a1), none, none, none] []) (k_60 L) rfl ?_
  refine mk_cIe (o := F_X5_goingsToGoals d h) ?_
  intro x2 h1 eh1
  have L1 : lay h1 := lay_call d 240 [.ref 60] h _ h1 rfl eh1 L
  refine mX_to 6 (k' := 8) (ls' := [some (.ref 60), some (.int a1), some (.int x2), none, none]) (st' := [.int (x2 - 1), .int 0, .int a1]) (h' := h1) rfl ?_
  refine mX_cIe (o := F_X10_within d a1 0 (x2 - 1) h1) (k' := 9) (ls' := [some (.ref 60), some (.int a1), some (.int x2), none, none]) (st' := []) rfl ?_
  intro x4 h3 eh3
  have L3 : lay h3 := lay_call d 11 [.int a1, .int 0, .int (x2 - 1)] h1 _ h3 rfl eh3 L1
  refine mX_br (t := 10) (f := 12) (ls' := [some (.ref 60), some (.int a1), some (.int x2), none, none]) (st' := []) (h' := h3) rfl ?_ ?_
  · refine mX_to 1 (k' := 11) (ls' := [some (.ref 60), some (.int a1), some (.int x2), none, none]) (st' := [.int (-2)]) (h' := h3) rfl ?_
    exact mX_reti rfl
  · refine mX_to 1 (k' := 13) (ls' := [some (.ref 60), some (.int a1), some (.int x2), none, none]) (st' := [.ref 60]) (h' := h3) rfl ?_
    refine mX_ckv (v := .int (gI h3 60 3)) (v' := .int (gI h3 60 3)) (k' := 14) (ls' := [some (.ref 60), some (.int a1), some (.int x2), none, none]) (st' := []) (h' := h3) (k_60 L3) rfl rfl ?_
    refine mX_to 5 (k' := 19) (ls' := [some (.ref 60), some (.int a1), some (.int x2), some (.int (gI h3 60 3)), some (.int (x2 - 1))]) (st' := []) (h' := h3) rfl ?_
    rfl
theorem S_X10_errands {h : MH} (L : lay h) (d : Nat) (a1 : Int32) (a2 : Int32) : F_X10_errands (d + 1) a1 a2 h = (if a2 < (-1) then some (.int (-2), h) else cV (F_X9_copyFrom d 43 10 h) (fun h1 => cV (F_X5_explore d a1 1 h1) (fun h2 => (if a2 = (-1) then cI (F_X5_goingsToGoals d h2) (fun x4 h3 => some (.int x4, h3)) else cI (F_X5_goingToGoals d a2 h2) (fun x6 h5 => some (.int x6, h5)))))) := by
  refine mE_eq (q := (yX10_errands, cX10_errands, 3, (some .int), KX10_errands)) (C := KX10_errands) (ls := [some (.ref 8), some (.int a1), some (.int a2)]) rfl rfl rfl rfl ?_
  refine mX_to 2 (k' := 2) (ls' := [some (.ref 8), some (.int a1), some (.int a2)]) (st' := [.int (-1), .int a2]) (h' := h) rfl ?_
  refine mX_br (t := 3) (f := 5) (ls' := [some (.ref 8), some (.int a1), some (.int a2)]) (st' := []) (h' := h) rfl ?_ ?_
  · refine mX_to 1 (k' := 4) (ls' := [some (.ref 8), some (.int a1), some (.int a2)]) (st' := [.int (-2)]) (h' := h) rfl ?_
    exact mX_reti rfl
  · refine mX_to 1 (k' := 6) (ls' := [some (.ref 8), some (.int a1), some (.int a2)]) (st' := [.ref 8]) (h' := h) rfl ?_
    refine mX_ckv (v := .ref (gR h 8 2)) (v' := .ref 43) (k' := 7) (ls' := [some (.ref 8), some (.int a1), some (.int a2)]) (st' := []) (h' := h) (k_8 L) (congrArg Value.ref (r_8_2 L)) rfl ?_
    refine mX_to 1 (k' := 8) (ls' := [some (.ref 8), some (.int a1), some (.int a2)]) (st' := [.ref 8, .ref 43]) (h' := h) rfl ?_
    refine mX_ckv (v := .ref (gR h 8 0)) (v' := .ref 9) (k' := 9) (ls' := [some (.ref 8), some (.int a1), some (.int a2)]) (st' := [.ref 43]) (h' := h) (k_8 L) (congrArg Value.ref (r_8_0 L)) rfl ?_
    refine mX_ckv (v := .ref (gR h 9 0)) (v' := .ref 10) (k' := 10) (ls' := [some (.ref 8), some (.int a1), some (.int a2)]) (st' := [.ref 43]) (h' := h) (k_9 L) (congrArg Value.ref (r_9_0 L)) rfl ?_
    refine mX_ckct (m := mcl (mE mtab d 225 [.ref 43, .ref 10] h) 0 11 [some (.ref 8), some (.int a1), some (.int a2)] []) (k_43 L) rfl ?_
    refine mk_cVe (o := F_X9_copyFrom d 43 10 h) ?_
    intro wh1 h1 eh1
    have L1 : lay h1 := lay_call d 225 [.ref 43, .ref 10] h _ h1 rfl eh1 L
    refine mX_to 1 (k' := 12) (ls' := [some (.ref 8), some (.int a1), some (.int a2)]) (st' := [.ref 8]) (h' := h1) rfl ?_
    refine mX_ckv (v := .ref (gR h1 8 5)) (v' := .ref 60) (k' := 13) (ls' := [some (.ref 8), some (.int a1), some (.int a2)]) (st' := []) (h' := h1) (k_8 L1) (congrArg Value.ref (r_8_5 L1)) rfl ?_
    refine mX_to 1 (k' := 14) (ls' := [some (.ref 8), some (.int a1), some (.int a2)]) (st' := [.ref 8, .ref 60]) (h' := h1) rfl ?_
    refine mX_ckv (v := .ref (gR h1 8 2)) (v' := .ref 43) (k' := 15) (ls' := [some (.ref 8), some (.int a1), some (.int a2)]) (st' := [.ref 60]) (h' := h1) (k_8 L1) (congrArg Value.ref (r_8_2 L1)) rfl ?_
    refine mX_to 2 (k' := 17) (ls' := [some (.ref 8), some (.int a1), some (.int a2)]) (st' := [.int 1, .int a1, .ref 43, .ref 60]) (h' := h1) rfl ?_
    refine mX_ckct (m := mcl (mE mtab d 239 [.ref 60, .ref 43, .int a1, .int 1] h1) 0 18 [some (.ref 8), some (.int a1), some (.int a2)] []) (k_60 L1) rfl ?_
    refine mk_cVe (o := F_X5_explore d a1 1 h1) ?_
    intro wh2 h2 eh2
    have L2 : lay h2 := lay_call d 239 [.ref 60, .ref 43, .int a1, .int 1] h1 _ h2 rfl eh2 L1
    refine mX_to 2 (k' := 20) (ls' := [some (.ref 8), some (.int a1), some (.int a2)]) (st' := [.int (-1), .int a2]) (h' := h2) rfl ?_
    refine mX_br (t := 21) (f := 25) (ls' := [some (.ref 8), some (.int a1), some (.int a2)]) (st' := []) (h' := h2) rfl ?_ ?_
    · refine mX_to 1 (k' := 22) (ls' := [some (.ref 8), some (.int a1), some (.int a2)]) (st' := [.ref 8]) (h' := h2) rfl ?_
      refine mX_ckv (v := .ref (gR h2 8 5)) (v' := .ref 60) (k' := 23) (ls' := [some (.ref 8), some (.int a1), some (.int a2)]) (st' := []) (h' := h2) (k_8 L2) (congrArg Value.ref (r_8_5 L2)) rfl ?_
      refine mX_ckct (m := mcl (mE mtab d 240 [.ref 60] h2) 1 24 [some (.ref 8), some (.int a1), some (.int a2)] []) (k_60 L2) rfl ?_
      refine mk_cIe (o := F_X5_goingsToGoals d h2) ?_
      intro x4 h3 eh3
      have L3 : lay h3 := lay_call d 240 [.ref 60] h2 _ h3 rfl eh3 L2
      refine mX_to 1 (k' := 29) (ls' := [some (.ref 8), some (.int a1), some (.int a2)]) (st' := [.int x4]) (h' := h3) rfl ?_
      exact mX_reti rfl
    · refine mX_to 1 (k' := 26) (ls' := [some (.ref 8), some (.int a1), some (.int a2)]) (st' := [.ref 8]) (h' := h2) rfl ?_
      refine mX_ckv (v := .ref (gR h2 8 5)) (v' := .ref 60) (k' := 27) (ls' := [some (.ref 8), some (.int a1), some (.int a2)]) (st' := []) (h' := h2) (k_8 L2) (congrArg Value.ref (r_8_5 L2)) rfl ?_
      refine mX_to 1 (k' := 28) (ls' := [some (.ref 8), some (.int a1), some (.int a2)]) (st' := [.int a2, .ref 60]) (h' := h2) rfl ?_
      refine mX_ckct (m := mcl (mE mtab d 241 [.ref 60, .int a2] h2) 1 29 [some (.ref 8), some (.int a1), some (.int a2)] []) (k_60 L2) rfl ?_
      refine mk_cIe (o := F_X5_goingToGoals d a2 h2) ?_
      intro x6 h5 eh5
      have L5 : lay h5 := lay_call d 241 [.ref 60, .int a2] h2 _ h5 rfl eh5 L2
      exact mX_reti rfl
theorem S_X11_standNow_9 {h : MH} (L : lay h) (d : Nat) (l1 : Int32) (l2 : Int32) : G_X11_standNow_9 d l1 l2 h = (if l2 < 0 then some (.int l1, h) else ck (ib (9 + l2) 1498) (lt_ ((9 * l1) + (gI h 68 (ix (9 + l2)))) fun v2 => G_X11_standNow_9 d v2 (l2 + (-1)) h)) := by
  refine mX_to 1 (k' := 10) (ls' := [some (.ref 67), some (.int l1), some (.int l2)]) (st' := [.int l2]) (h' := h) rfl ?_
  refine mX_br (t := 24) (f := 11) (ls' := [some (.ref 67), some (.int l1), some (.int l2)]) (st' := []) (h' := h) rfl ?_ ?_
  · refine mX_to 1 (k' := 25) (ls' := [some (.ref 67), some (.int l1), some (.int l2)]) (st' := [.int l1]) (h' := h) rfl ?_
    exact mX_reti rfl
  · refine mX_to 4 (k' := 15) (ls' := [some (.ref 67), some (.int l1), some (.int l2)]) (st' := [.ref 67, .int (9 * l1)]) (h' := h) rfl ?_
    refine mX_ckv (v := .ref (gR h 67 0)) (v' := .ref 68) (k' := 16) (ls' := [some (.ref 67), some (.int l1), some (.int l2)]) (st' := [.int (9 * l1)]) (h' := h) (k_67 L) (congrArg Value.ref (r_67_0 L)) rfl ?_
    refine mX_to 3 (k' := 19) (ls' := [some (.ref 67), some (.int l1), some (.int l2)]) (st' := [.int (9 + l2), .ref 68, .int (9 * l1)]) (h' := h) rfl ?_
    refine mX_ckw (v := .int (gI h 68 (ix (9 + l2)))) (v' := .int (gI h 68 (ix (9 + l2)))) (k' := 20) (ls' := [some (.ref 67), some (.int l1), some (.int l2)]) (st' := [.int (9 * l1)]) (h' := h) (ckA1 (k_68 L) (n_68 L)) rfl rfl fun c3 => ?_
    refine mX_to 1 (k' := 21) (ls' := [some (.ref 67), some (.int l1), some (.int l2)]) (st' := [.int ((9 * l1) + (gI h 68 (ix (9 + l2))))]) (h' := h) rfl ?_
    refine lt_gen (X := fun v2 : Int32 => mX (mE mtab d) KX11_standNow 21 [some (.ref 67), some (.int l1), some (.int l2)] [.int v2] h) fun v2 => ?_
    refine mX_to 3 (k' := 9) (ls' := [some (.ref 67), some (.int v2), some (.int (l2 + (-1)))]) (st' := []) (h' := h) rfl ?_
    rfl
theorem S_X11_standNow {h : MH} (L : lay h) (d : Nat) : F_X11_standNow (d + 1) h = lt_ ((gI h 68 0) - 1) fun v1 => G_X11_standNow_9 d 0 v1 h := by
  refine mE_eq (q := (yX11_standNow, cX11_standNow, 3, (some .int), KX11_standNow)) (C := KX11_standNow) (ls := [some (.ref 67), none, none]) rfl rfl rfl rfl ?_
  refine mX_to 3 (k' := 3) (ls' := [some (.ref 67), some (.int 0), none]) (st' := [.ref 67]) (h' := h) rfl ?_
  refine mX_ckv (v := .ref (gR h 67 0)) (v' := .ref 68) (k' := 4) (ls' := [some (.ref 67), some (.int 0), none]) (st' := []) (h' := h) (k_67 L) (congrArg Value.ref (r_67_0 L)) rfl ?_
  refine mX_to 1 (k' := 5) (ls' := [some (.ref 67), some (.int 0), none]) (st' := [.int 0, .ref 68]) (h' := h) rfl ?_
  refine mX_ckv (v := .int (gI h 68 (ix (0 : Int32)))) (v' := .int (gI h 68 0)) (k' := 6) (ls' := [some (.ref 67), some (.int 0), none]) (st' := []) (h' := h) ((ckA1 (k_68 L) (n_68 L)).mpr (ib_lit (n := 0) rfl (by decide) (by decide))) (congrArg (fun j => Value.int (gI h 68 j)) (ix_lit (n := 0) rfl (by decide))) rfl ?_
  refine mX_to 2 (k' := 8) (ls' := [some (.ref 67), some (.int 0), none]) (st' := [.int ((gI h 68 0) - 1)]) (h' := h) rfl ?_
  refine lt_gen (X := fun v1 : Int32 => mX (mE mtab d) KX11_standNow 8 [some (.ref 67), some (.int 0), none] [.int v1] h) fun v1 => ?_
  refine mX_to 1 (k' := 9) (ls' := [some (.ref 67), some (.int 0), some (.int v1)]) (st' := []) (h' := h) rfl ?_
  rfl
theorem S_X11_nines_4 {h : MH} (L : lay h) (d : Nat) (l0 : Int32) (l1 : Int32) (l2 : Int32) : G_X11_nines_4 d l0 l1 l2 h = (if l2 < l0 then G_X11_nines_4 d l0 (l1 * 9) (l2 + 1) h else some (.int l1, h)) := by
  refine mX_to 2 (k' := 6) (ls' := [some (.int l0), some (.int l1), some (.int l2)]) (st' := [.int l0, .int l2]) (h' := h) rfl ?_
  refine mX_br (t := 7) (f := 13) (ls' := [some (.int l0), some (.int l1), some (.int l2)]) (st' := []) (h' := h) rfl ?_ ?_
  · refine mX_to 6 (k' := 4) (ls' := [some (.int l0), some (.int (l1 * 9)), some (.int (l2 + 1))]) (st' := []) (h' := h) rfl ?_
    rfl
  · refine mX_to 1 (k' := 14) (ls' := [some (.int l0), some (.int l1), some (.int l2)]) (st' := [.int l1]) (h' := h) rfl ?_
    exact mX_reti rfl
theorem S_X11_nines {h : MH} (L : lay h) (d : Nat) (a0 : Int32) : F_X11_nines (d + 1) a0 h = G_X11_nines_4 d a0 1 0 h := by
  refine mE_eq (q := (yX11_nines, cX11_nines, 3, (some .int), KX11_nines)) (C := KX11_nines) (ls := [some (.int a0), none, none]) rfl rfl rfl rfl ?_
  refine mX_to 4 (k' := 4) (ls' := [some (.int a0), some (.int 1), some (.int 0)]) (st' := []) (h' := h) rfl ?_
  rfl
theorem S_X11_standSo_4 {h : MH} (L : lay h) (d : Nat) (l1 : Int32) (l2 : Int32) (l3 : Int32) : G_X11_standSo_4 d l1 l2 l3 h = (if l3 < (gI h 68 0) then ck (ib (9 + l3) 1498) (lt_ (sI h 68 (ix (9 + l3)) (l2 - l2 / 9 * 9)) fun h2 => G_X11_standSo_4 d l1 (l2 / 9) (l3 + 1) h2) else some (.int 0, h)) := by
  refine mX_to 2 (k' := 6) (ls' := [some (.ref 67), some (.int l1), some (.int l2), some (.int l3)]) (st' := [.ref 67, .int l3]) (h' := h) rfl ?_
  refine mX_ckv (v := .ref (gR h 67 0)) (v' := .ref 68) (k' := 7) (ls' := [some (.ref 67), some (.int l1), some (.int l2), some (.int l3)]) (st' := [.int l3]) (h' := h) (k_67 L) (congrArg Value.ref (r_67_0 L)) rfl ?_
  refine mX_to 1 (k' := 8) (ls' := [some (.ref 67), some (.int l1), some (.int l2), some (.int l3)]) (st' := [.int 0, .ref 68, .int l3]) (h' := h) rfl ?_
  refine mX_ckv (v := .int (gI h 68 (ix (0 : Int32)))) (v' := .int (gI h 68 0)) (k' := 9) (ls' := [some (.ref 67), some (.int l1), some (.int l2), some (.int l3)]) (st' := [.int l3]) (h' := h) ((ckA1 (k_68 L) (n_68 L)).mpr (ib_lit (n := 0) rfl (by decide) (by decide))) (congrArg (fun j => Value.int (gI h 68 j)) (ix_lit (n := 0) rfl (by decide))) rfl ?_
  refine mX_br (t := 10) (f := 25) (ls' := [some (.ref 67), some (.int l1), some (.int l2), some (.int l3)]) (st' := []) (h' := h) rfl ?_ ?_
  · refine mX_to 1 (k' := 11) (ls' := [some (.ref 67), some (.int l1), some (.int l2), some (.int l3)]) (st' := [.ref 67]) (h' := h) rfl ?_
    refine mX_ckv (v := .ref (gR h 67 0)) (v' := .ref 68) (k' := 12) (ls' := [some (.ref 67), some (.int l1), some (.int l2), some (.int l3)]) (st' := []) (h' := h) (k_67 L) (congrArg Value.ref (r_67_0 L)) rfl ?_
    refine mX_to 5 (k' := 17) (ls' := [some (.ref 67), some (.int l1), some (.int l2), some (.int l3)]) (st' := [.int 9, .int l2, .int (9 + l3), .ref 68]) (h' := h) rfl ?_
    refine mX_ckt (c := ¬ (9 : Int32) = 0) (k' := 18) (ls' := [some (.ref 67), some (.int l1), some (.int l2), some (.int l3)]) (st' := [.int (l2 - l2 / 9 * 9), .int (9 + l3), .ref 68]) (h' := h) (by decide) rfl ?_
    refine mX_cki (k' := 19) (ls' := [some (.ref 67), some (.int l1), some (.int l2), some (.int l3)]) (st' := []) (h' := (sI h 68 (ix (9 + l3)) (l2 - l2 / 9 * 9))) (ckA0 (k_68 L) (n_68 L)) rfl fun c1 => ?_
    refine lt_geq2 (X := fun h2 : MH => mX (mE mtab d) KX11_standSo 19 [some (.ref 67), some (.int l1), some (.int l2), some (.int l3)] [] h2) (a := (sI h 68 (ix (9 + l3)) (l2 - l2 / 9 * 9))) (a' := (sI h 68 (ix (9 + l3)) (l2 - l2 / 9 * 9))) rfl fun h2 eh2 => ?_
    have L2 : lay h2 := eh2 ▸ layI L (by decide)
    refine mX_to 2 (k' := 21) (ls' := [some (.ref 67), some (.int l1), some (.int l2), some (.int l3)]) (st' := [.int 9, .int l2]) (h' := h2) rfl ?_
    refine mX_ckt (c := ¬ (9 : Int32) = 0) (k' := 22) (ls' := [some (.ref 67), some (.int l1), some (.int l2), some (.int l3)]) (st' := [.int (l2 / 9)]) (h' := h2) (by decide) rfl ?_
    refine mX_to 3 (k' := 4) (ls' := [some (.ref 67), some (.int l1), some (.int (l2 / 9)), some (.int (l3 + 1))]) (st' := []) (h' := h2) rfl ?_
    rfl
  · exact mX_ret rfl
theorem S_X11_standSo {h : MH} (L : lay h) (d : Nat) (a1 : Int32) : F_X11_standSo (d + 1) a1 h = G_X11_standSo_4 d a1 a1 0 h := by
  refine mE_eq (q := (yX11_standSo, cX11_standSo, 4, none, KX11_standSo)) (C := KX11_standSo) (ls := [some (.ref 67), some (.int a1), none, none]) rfl rfl rfl rfl ?_
  refine mX_to 4 (k' := 4) (ls' := [some (.ref 67), some (.int a1), some (.int a1), some (.int 0)]) (st' := []) (h' := h) rfl ?_
  rfl
theorem S_X11_layGood_5 {h : MH} (L : lay h) (d : Nat) (l1 : Int32) (l2 : Int32) : G_X11_layGood_5 d l1 l2 h = cI (F_X11_nines d (gI h 68 0) h) (fun x4 h3 => (if l2 < x4 then cV (F_X11_standSo d l2 h3) (fun h5 => cI (F_X11_isFar d h5) (fun x7 h6 => (if x7 = 0 then G_X11_layGood_24 d l1 l2 1 l2 h6 else G_X11_layGood_24 d l1 l2 0 l2 h6))) else cV (F_X11_standSo d l1 h3) (fun h8 => some (.int 0, h8)))) := by
  refine mX_to 2 (k' := 7) (ls' := [some (.ref 67), some (.int l1), some (.int l2)]) (st' := [.ref 67, .int l2]) (h' := h) rfl ?_
  refine mX_ckv (v := .ref (gR h 67 0)) (v' := .ref 68) (k' := 8) (ls' := [some (.ref 67), some (.int l1), some (.int l2)]) (st' := [.int l2]) (h' := h) (k_67 L) (congrArg Value.ref (r_67_0 L)) rfl ?_
  refine mX_to 1 (k' := 9) (ls' := [some (.ref 67), some (.int l1), some (.int l2)]) (st' := [.int 0, .ref 68, .int l2]) (h' := h) rfl ?_
  refine mX_ckv (v := .int (gI h 68 (ix (0 : Int32)))) (v' := .int (gI h 68 0)) (k' := 10) (ls' := [some (.ref 67), some (.int l1), some (.int l2)]) (st' := [.int l2]) (h' := h) ((ckA1 (k_68 L) (n_68 L)).mpr (ib_lit (n := 0) rfl (by decide) (by decide))) (congrArg (fun j => Value.int (gI h 68 j)) (ix_lit (n := 0) rfl (by decide))) rfl ?_
  refine mX_cIe (o := F_X11_nines d (gI h 68 0) h) (k' := 11) (ls' := [some (.ref 67), some (.int l1), some (.int l2)]) (st' := [.int l2]) rfl ?_
  intro x4 h3 eh3
  have L3 : lay h3 := lay_call d 244 [.int (gI h 68 0)] h _ h3 rfl eh3 L
  refine mX_br (t := 12) (f := 27) (ls' := [some (.ref 67), some (.int l1), some (.int l2)]) (st' := []) (h' := h3) rfl ?_ ?_
  · refine mX_to 2 (k' := 14) (ls' := [some (.ref 67), some (.int l1), some (.int l2)]) (st' := [.int l2, .ref 67]) (h' := h3) rfl ?_
    refine mX_ckct (m := mcl (mE mtab d 245 [.ref 67, .int l2] h3) 0 15 [some (.ref 67), some (.int l1), some (.int l2)] []) (k_67 L3) rfl ?_
    refine mk_cVe (o := F_X11_standSo d l2 h3) ?_
    intro wh5 h5 eh5
    have L5 : lay h5 := lay_call d 245 [.ref 67, .int l2] h3 _ h5 rfl eh5 L3
    refine mX_to 1 (k' := 16) (ls' := [some (.ref 67), some (.int l1), some (.int l2)]) (st' := [.ref 67]) (h' := h5) rfl ?_
    refine mX_ckv (v := .ref (gR h5 67 28)) (v' := .ref 79) (k' := 17) (ls' := [some (.ref 67), some (.int l1), some (.int l2)]) (st' := []) (h' := h5) (k_67 L5) (congrArg Value.ref (r_67_28 L5)) rfl ?_
    refine mX_to 2 (k' := 19) (ls' := [some (.ref 67), some (.int l1), some (.int l2)]) (st' := [.ref 67, .int l2, .ref 79]) (h' := h5) rfl ?_
    refine mX_ckct (m := mcl (mE mtab d 173 [.ref 67] h5) 1 20 [some (.ref 67), some (.int l1), some (.int l2)] [.int l2, .ref 79]) (k_67 L5) rfl ?_
    refine mk_cIe (o := F_X11_isFar d h5) ?_
    intro x7 h6 eh6
    have L6 : lay h6 := lay_call d 173 [.ref 67] h5 _ h6 rfl eh6 L5
    refine mX_br (t := 21) (f := 23) (ls' := [some (.ref 67), some (.int l1), some (.int l2)]) (st' := [.int l2, .ref 79]) (h' := h6) rfl ?_ ?_
    · refine mX_to 2 (k' := 24) (ls' := [some (.ref 67), some (.int l1), some (.int l2)]) (st' := [.int 1, .int l2, .ref 79]) (h' := h6) rfl ?_
      rfl
    · refine mX_to 1 (k' := 24) (ls' := [some (.ref 67), some (.int l1), some (.int l2)]) (st' := [.int 0, .int l2, .ref 79]) (h' := h6) rfl ?_
      rfl
  · refine mX_to 2 (k' := 29) (ls' := [some (.ref 67), some (.int l1), some (.int l2)]) (st' := [.int l1, .ref 67]) (h' := h3) rfl ?_
    refine mX_ckct (m := mcl (mE mtab d 245 [.ref 67, .int l1] h3) 0 30 [some (.ref 67), some (.int l1), some (.int l2)] []) (k_67 L3) rfl ?_
    refine mk_cVe (o := F_X11_standSo d l1 h3) ?_
    intro wh8 h8 eh8
    have L8 : lay h8 := lay_call d 245 [.ref 67, .int l1] h3 _ h8 rfl eh8 L3
    exact mX_ret rfl
theorem S_X11_layGood_24 {h : MH} (L : lay h) (d : Nat) (l1 : Int32) (l2 : Int32) (s0 : Int32) (s1 : Int32) : G_X11_layGood_24 d l1 l2 s0 s1 h = ck (ib s1 6561 ∧ (s0 = 0 ∨ s0 = 1)) (lt_ (sI h 79 (ix s1) s0) fun h10 => G_X11_layGood_5 d l1 (l2 + 1) h10) := by
  refine mX_cki (k' := 25) (ls' := [some (.ref 67), some (.int l1), some (.int l2)]) (st' := []) (h' := (sI h 79 (ix s1) s0)) (ckA3 (k_79 L) (n_79 L)) rfl fun c9 => ?_
  refine lt_geq2 (X := fun h10 : MH => mX (mE mtab d) KX11_layGood 25 [some (.ref 67), some (.int l1), some (.int l2)] [] h10) (a := (sI h 79 (ix s1) s0)) (a' := (sI h 79 (ix s1) s0)) rfl fun h10 eh10 => ?_
  have L10 : lay h10 := eh10 ▸ layI L (by decide)
  refine mX_to 2 (k' := 5) (ls' := [some (.ref 67), some (.int l1), some (.int (l2 + 1))]) (st' := []) (h' := h10) rfl ?_
  rfl
theorem S_X11_layGood {h : MH} (L : lay h) (d : Nat) : F_X11_layGood (d + 1) h = cI (F_X11_standNow d h) (fun x2 h1 => G_X11_layGood_5 d x2 0 h1) := by
  refine mE_eq (q := (yX11_layGood, cX11_layGood, 3, none, KX11_layGood)) (C := KX11_layGood) (ls := [some (.ref 67), none, none]) rfl rfl rfl rfl ?_
  refine mX_to 1 (k' := 1) (ls' := [some (.ref 67), none, none]) (st' := [.ref 67]) (h' := h) rfl ?_
  refine mX_ckct (m := mcl (mE mtab d 243 [.ref 67] h) 1 2 [some (.ref 67), none, none] []) (k_67 L) rfl ?_
  refine mk_cIe (o := F_X11_standNow d h) ?_
  intro x2 h1 eh1
  have L1 : lay h1 := lay_call d 243 [.ref 67] h _ h1 rfl eh1 L
  refine mX_to 3 (k' := 5) (ls' := [some (.ref 67), some (.int x2), some (.int 0)]) (st' := []) (h' := h1) rfl ?_
  rfl
theorem S_X11_areThere_6 {h : MH} (L : lay h) (d : Nat) (l1 : Int32) (l2 : Int32) (l3 : Int32) (l4 : Int32) : G_X11_areThere_6 d l1 l2 l3 l4 h = (if l4 < (gI h 68 0) then ck (ib (30 + l4) 1498) ((if (gI h 68 (ix (30 + l4))) = (-1) then G_X11_areThere_31 d l1 l2 l3 l4 l3 h else ck (ib (30 + l4) 1498) ((if (gI h 68 (ix (30 + l4))) = (l2 - l2 / 9 * 9) then G_X11_areThere_31 d l1 l2 l3 l4 l3 h else G_X11_areThere_34 d l1 l2 l3 l4 0 l3 h)))) else ck (mrt 1 l3) (some (.int l3, h))) := by
  refine mX_to 2 (k' := 8) (ls' := [some (.ref 67), some (.int l1), some (.int l2), some (.int l3), some (.int l4)]) (st' := [.ref 67, .int l4]) (h' := h) rfl ?_
  refine mX_ckv (v := .ref (gR h 67 0)) (v' := .ref 68) (k' := 9) (ls' := [some (.ref 67), some (.int l1), some (.int l2), some (.int l3), some (.int l4)]) (st' := [.int l4]) (h' := h) (k_67 L) (congrArg Value.ref (r_67_0 L)) rfl ?_
  refine mX_to 1 (k' := 10) (ls' := [some (.ref 67), some (.int l1), some (.int l2), some (.int l3), some (.int l4)]) (st' := [.int 0, .ref 68, .int l4]) (h' := h) rfl ?_
  refine mX_ckv (v := .int (gI h 68 (ix (0 : Int32)))) (v' := .int (gI h 68 0)) (k' := 11) (ls' := [some (.ref 67), some (.int l1), some (.int l2), some (.int l3), some (.int l4)]) (st' := [.int l4]) (h' := h) ((ckA1 (k_68 L) (n_68 L)).mpr (ib_lit (n := 0) rfl (by decide) (by decide))) (congrArg (fun j => Value.int (gI h 68 j)) (ix_lit (n := 0) rfl (by decide))) rfl ?_
  refine mX_br (t := 12) (f := 42) (ls' := [some (.ref 67), some (.int l1), some (.int l2), some (.int l3), some (.int l4)]) (st' := []) (h' := h) rfl ?_ ?_
  · refine mX_to 2 (k' := 14) (ls' := [some (.ref 67), some (.int l1), some (.int l2), some (.int l3), some (.int l4)]) (st' := [.ref 67, .int l3]) (h' := h) rfl ?_
    refine mX_ckv (v := .ref (gR h 67 0)) (v' := .ref 68) (k' := 15) (ls' := [some (.ref 67), some (.int l1), some (.int l2), some (.int l3), some (.int l4)]) (st' := [.int l3]) (h' := h) (k_67 L) (congrArg Value.ref (r_67_0 L)) rfl ?_
    refine mX_to 3 (k' := 18) (ls' := [some (.ref 67), some (.int l1), some (.int l2), some (.int l3), some (.int l4)]) (st' := [.int (30 + l4), .ref 68, .int l3]) (h' := h) rfl ?_
    refine mX_ckw (v := .int (gI h 68 (ix (30 + l4)))) (v' := .int (gI h 68 (ix (30 + l4)))) (k' := 19) (ls' := [some (.ref 67), some (.int l1), some (.int l2), some (.int l3), some (.int l4)]) (st' := [.int l3]) (h' := h) (ckA1 (k_68 L) (n_68 L)) rfl rfl fun c2 => ?_
    refine mX_to 1 (k' := 20) (ls' := [some (.ref 67), some (.int l1), some (.int l2), some (.int l3), some (.int l4)]) (st' := [.int (-1), .int (gI h 68 (ix (30 + l4))), .int l3]) (h' := h) rfl ?_
    refine mX_br (t := 31) (f := 21) (ls' := [some (.ref 67), some (.int l1), some (.int l2), some (.int l3), some (.int l4)]) (st' := [.int l3]) (h' := h) rfl ?_ ?_
    · rfl
    · refine mX_to 1 (k' := 22) (ls' := [some (.ref 67), some (.int l1), some (.int l2), some (.int l3), some (.int l4)]) (st' := [.ref 67, .int l3]) (h' := h) rfl ?_
      refine mX_ckv (v := .ref (gR h 67 0)) (v' := .ref 68) (k' := 23) (ls' := [some (.ref 67), some (.int l1), some (.int l2), some (.int l3), some (.int l4)]) (st' := [.int l3]) (h' := h) (k_67 L) (congrArg Value.ref (r_67_0 L)) rfl ?_
      refine mX_to 3 (k' := 26) (ls' := [some (.ref 67), some (.int l1), some (.int l2), some (.int l3), some (.int l4)]) (st' := [.int (30 + l4), .ref 68, .int l3]) (h' := h) rfl ?_
      refine mX_ckw (v := .int (gI h 68 (ix (30 + l4)))) (v' := .int (gI h 68 (ix (30 + l4)))) (k' := 27) (ls' := [some (.ref 67), some (.int l1), some (.int l2), some (.int l3), some (.int l4)]) (st' := [.int l3]) (h' := h) (ckA1 (k_68 L) (n_68 L)) rfl rfl fun c1 => ?_
      refine mX_to 2 (k' := 29) (ls' := [some (.ref 67), some (.int l1), some (.int l2), some (.int l3), some (.int l4)]) (st' := [.int 9, .int l2, .int (gI h 68 (ix (30 + l4))), .int l3]) (h' := h) rfl ?_
      refine mX_ckt (c := ¬ (9 : Int32) = 0) (k' := 30) (ls' := [some (.ref 67), some (.int l1), some (.int l2), some (.int l3), some (.int l4)]) (st' := [.int (l2 - l2 / 9 * 9), .int (gI h 68 (ix (30 + l4))), .int l3]) (h' := h) (by decide) rfl ?_
      refine mX_br (t := 31) (f := 33) (ls' := [some (.ref 67), some (.int l1), some (.int l2), some (.int l3), some (.int l4)]) (st' := [.int l3]) (h' := h) rfl ?_ ?_
      · rfl
      · refine mX_to 1 (k' := 34) (ls' := [some (.ref 67), some (.int l1), some (.int l2), some (.int l3), some (.int l4)]) (st' := [.int 0, .int l3]) (h' := h) rfl ?_
        rfl
  · refine mX_to 1 (k' := 43) (ls' := [some (.ref 67), some (.int l1), some (.int l2), some (.int l3), some (.int l4)]) (st' := [.int l3]) (h' := h) rfl ?_
    exact mX_retc rfl
theorem S_X11_areThere_31 {h : MH} (L : lay h) (d : Nat) (l1 : Int32) (l2 : Int32) (l3 : Int32) (l4 : Int32) (s0 : Int32) : G_X11_areThere_31 d l1 l2 l3 l4 s0 h = G_X11_areThere_34 d l1 l2 l3 l4 1 s0 h := by
  refine mX_to 2 (k' := 34) (ls' := [some (.ref 67), some (.int l1), some (.int l2), some (.int l3), some (.int l4)]) (st' := [.int 1, .int s0]) (h' := h) rfl ?_
  rfl
theorem S_X11_areThere_34 {h : MH} (L : lay h) (d : Nat) (l1 : Int32) (l2 : Int32) (l3 : Int32) (l4 : Int32) (s0 : Int32) (s1 : Int32) : G_X11_areThere_34 d l1 l2 l3 l4 s0 s1 h = G_X11_areThere_6 d l1 (l2 / 9) (s1 &&& s0) (l4 + 1) h := by
  refine mX_to 4 (k' := 38) (ls' := [some (.ref 67), some (.int l1), some (.int l2), some (.int (s1 &&& s0)), some (.int l4)]) (st' := [.int 9, .int l2]) (h' := h) rfl ?_
  refine mX_ckt (c := ¬ (9 : Int32) = 0) (k' := 39) (ls' := [some (.ref 67), some (.int l1), some (.int l2), some (.int (s1 &&& s0)), some (.int l4)]) (st' := [.int (l2 / 9)]) (h' := h) (by decide) rfl ?_
  refine mX_to 3 (k' := 6) (ls' := [some (.ref 67), some (.int l1), some (.int (l2 / 9)), some (.int (s1 &&& s0)), some (.int (l4 + 1))]) (st' := []) (h' := h) rfl ?_
  rfl
theorem S_X11_areThere {h : MH} (L : lay h) (d : Nat) (a1 : Int32) : F_X11_areThere (d + 1) a1 h = G_X11_areThere_6 d a1 a1 1 0 h := by
  refine mE_eq (q := (yX11_areThere, cX11_areThere, 5, (some .boolean), KX11_areThere)) (C := KX11_areThere) (ls := [some (.ref 67), some (.int a1), none, none, none]) rfl rfl rfl rfl ?_
  refine mX_to 6 (k' := 6) (ls' := [some (.ref 67), some (.int a1), some (.int a1), some (.int 1), some (.int 0)]) (st' := []) (h' := h) rfl ?_
  rfl
theorem S_X11_top {h : MH} (L : lay h) (d : Nat) (a0 : Int32) : F_X11_top (d + 1) a0 h = (if a0 = 0 then some (.int 10, h) else some (.int 58, h)) := by
  refine mE_eq (q := (yX11_top, cX11_top, 1, (some .int), KX11_top)) (C := KX11_top) (ls := [some (.int a0)]) rfl rfl rfl rfl ?_
  refine mX_to 1 (k' := 1) (ls' := [some (.int a0)]) (st' := [.int a0]) (h' := h) rfl ?_
  refine mX_br (t := 4) (f := 2) (ls' := [some (.int a0)]) (st' := []) (h' := h) rfl ?_ ?_
  · refine mX_to 1 (k' := 5) (ls' := [some (.int a0)]) (st' := [.int 10]) (h' := h) rfl ?_
    exact mX_reti rfl
  · refine mX_to 2 (k' := 5) (ls' := [some (.int a0)]) (st' := [.int 58]) (h' := h) rfl ?_
    exact mX_reti rfl
theorem S_X11_stepOf {h : MH} (L : lay h) (d : Nat) (a1 : Int32) (a2 : Int32) (a3 : Int32) : F_X11_stepOf (d + 1) a1 a2 a3 h = cI (F_X11_nines d a2 h) (fun x2 h1 => ck (¬ x2 = 0) (cI (F_X11_step d a3 h1) (fun x4 h3 => lt_ (((a1 / x2) - (a1 / x2) / 9 * 9) + x4) fun v5 => cI (F_X11_isPerson d a2 h3) (fun x7 h6 => (if x7 = 0 then some (.int 0, h6) else cI (F_X11_isPlace d v5 h6) (fun x9 h8 => (if x9 = 0 then some (.int 0, h8) else cI (F_X11_step d a3 h8) (fun x11 h10 => cI (F_X11_nines d a2 h10) (fun x13 h12 => some (.int (x11 * x13), h12)))))))))) := by
  refine mE_eq (q := (yX11_stepOf, cX11_stepOf, 5, (some .int), KX11_stepOf)) (C := KX11_stepOf) (ls := [some (.ref 67), some (.int a1), some (.int a2), some (.int a3), none]) rfl rfl rfl rfl ?_
  refine mX_to 2 (k' := 2) (ls' := [some (.ref 67), some (.int a1), some (.int a2), some (.int a3), none]) (st' := [.int a2, .int a1]) (h' := h) rfl ?_
  refine mX_cIe (o := F_X11_nines d a2 h) (k' := 3) (ls' := [some (.ref 67), some (.int a1), some (.int a2), some (.int a3), none]) (st' := [.int a1]) rfl ?_
  intro x2 h1 eh1
  have L1 : lay h1 := lay_call d 244 [.int a2] h _ h1 rfl eh1 L
  refine mX_ck (k' := 4) (ls' := [some (.ref 67), some (.int a1), some (.int a2), some (.int a3), none]) (st' := [.int (a1 / x2)]) (h' := h1) rfl ?_
  refine mX_to 1 (k' := 5) (ls' := [some (.ref 67), some (.int a1), some (.int a2), some (.int a3), none]) (st' := [.int 9, .int (a1 / x2)]) (h' := h1) rfl ?_
  refine mX_ckt (c := ¬ (9 : Int32) = 0) (k' := 6) (ls' := [some (.ref 67), some (.int a1), some (.int a2), some (.int a3), none]) (st' := [.int ((a1 / x2) - (a1 / x2) / 9 * 9)]) (h' := h1) (by decide) rfl ?_
  refine mX_to 1 (k' := 7) (ls' := [some (.ref 67), some (.int a1), some (.int a2), some (.int a3), none]) (st' := [.int a3, .int ((a1 / x2) - (a1 / x2) / 9 * 9)]) (h' := h1) rfl ?_
  refine mX_cIe (o := F_X11_step d a3 h1) (k' := 8) (ls' := [some (.ref 67), some (.int a1), some (.int a2), some (.int a3), none]) (st' := [.int ((a1 / x2) - (a1 / x2) / 9 * 9)]) rfl ?_
  intro x4 h3 eh3
  have L3 : lay h3 := lay_call d 151 [.int a3] h1 _ h3 rfl eh3 L1
  refine mX_to 1 (k' := 9) (ls' := [some (.ref 67), some (.int a1), some (.int a2), some (.int a3), none]) (st' := [.int (((a1 / x2) - (a1 / x2) / 9 * 9) + x4)]) (h' := h3) rfl ?_
  refine lt_gen (X := fun v5 : Int32 => mX (mE mtab d) KX11_stepOf 9 [some (.ref 67), some (.int a1), some (.int a2), some (.int a3), none] [.int v5] h3) fun v5 => ?_
  refine mX_to 3 (k' := 12) (ls' := [some (.ref 67), some (.int a1), some (.int a2), some (.int a3), some (.int v5)]) (st' := [.int a2, .ref 67]) (h' := h3) rfl ?_
  refine mX_ckct (m := mcl (mE mtab d 20 [.ref 67, .int a2] h3) 1 13 [some (.ref 67), some (.int a1), some (.int a2), some (.int a3), some (.int v5)] []) (k_67 L3) rfl ?_
  refine mk_cIe (o := F_X11_isPerson d a2 h3) ?_
  intro x7 h6 eh6
  have L6 : lay h6 := lay_call d 20 [.ref 67, .int a2] h3 _ h6 rfl eh6 L3
  refine mX_br (t := 23) (f := 14) (ls' := [some (.ref 67), some (.int a1), some (.int a2), some (.int a3), some (.int v5)]) (st' := []) (h' := h6) rfl ?_ ?_
  · refine mX_to 1 (k' := 24) (ls' := [some (.ref 67), some (.int a1), some (.int a2), some (.int a3), some (.int v5)]) (st' := [.int 0]) (h' := h6) rfl ?_
    exact mX_reti rfl
  · refine mX_to 1 (k' := 15) (ls' := [some (.ref 67), some (.int a1), some (.int a2), some (.int a3), some (.int v5)]) (st' := [.int v5]) (h' := h6) rfl ?_
    refine mX_cIe (o := F_X11_isPlace d v5 h6) (k' := 16) (ls' := [some (.ref 67), some (.int a1), some (.int a2), some (.int a3), some (.int v5)]) (st' := []) rfl ?_
    intro x9 h8 eh8
    have L8 : lay h8 := lay_call d 15 [.int v5] h6 _ h8 rfl eh8 L6
    refine mX_br (t := 23) (f := 17) (ls' := [some (.ref 67), some (.int a1), some (.int a2), some (.int a3), some (.int v5)]) (st' := []) (h' := h8) rfl ?_ ?_
    · refine mX_to 1 (k' := 24) (ls' := [some (.ref 67), some (.int a1), some (.int a2), some (.int a3), some (.int v5)]) (st' := [.int 0]) (h' := h8) rfl ?_
      exact mX_reti rfl
    · refine mX_to 1 (k' := 18) (ls' := [some (.ref 67), some (.int a1), some (.int a2), some (.int a3), some (.int v5)]) (st' := [.int a3]) (h' := h8) rfl ?_
      refine mX_cIe (o := F_X11_step d a3 h8) (k' := 19) (ls' := [some (.ref 67), some (.int a1), some (.int a2), some (.int a3), some (.int v5)]) (st' := []) rfl ?_
      intro x11 h10 eh10
      have L10 : lay h10 := lay_call d 151 [.int a3] h8 _ h10 rfl eh10 L8
      refine mX_to 1 (k' := 20) (ls' := [some (.ref 67), some (.int a1), some (.int a2), some (.int a3), some (.int v5)]) (st' := [.int a2, .int x11]) (h' := h10) rfl ?_
      refine mX_cIe (o := F_X11_nines d a2 h10) (k' := 21) (ls' := [some (.ref 67), some (.int a1), some (.int a2), some (.int a3), some (.int v5)]) (st' := [.int x11]) rfl ?_
      intro x13 h12 eh12
      have L12 : lay h12 := lay_call d 244 [.int a2] h10 _ h12 rfl eh12 L10
      refine mX_to 2 (k' := 24) (ls' := [some (.ref 67), some (.int a1), some (.int a2), some (.int a3), some (.int v5)]) (st' := [.int (x11 * x13)]) (h' := h12) rfl ?_
      exact mX_reti rfl
theorem S_X11_gone_19 {h : MH} (L : lay h) (d : Nat) (l1 : Int32) (l2 : Int32) (s0 : Int32) (s1 : Int32) (s2 : Int32) : G_X11_gone_19 d l1 l2 s0 s1 s2 h = cI (F_X11_stepOf d s2 s1 s0 h) (fun x4 h3 => G_X11_gone_22 d l1 l2 x4 h3) := by
  refine mX_ckct (m := mcl (mE mtab d 249 [.ref 67, .int s2, .int s1, .int s0] h) 1 20 [some (.ref 67), some (.int l1), some (.int l2), none, none, none, none, none] []) (k_67 L) rfl ?_
  refine mk_cIe (o := F_X11_stepOf d s2 s1 s0 h) ?_
  intro x4 h3 eh3
  have L3 : lay h3 := lay_call d 249 [.ref 67, .int s2, .int s1, .int s0] h _ h3 rfl eh3 L
  refine mX_to 1 (k' := 22) (ls' := [some (.ref 67), some (.int l1), some (.int l2), none, none, none, none, none]) (st' := [.int x4]) (h' := h3) rfl ?_
  rfl
theorem S_X11_gone_22 {h : MH} (L : lay h) (d : Nat) (l1 : Int32) (l2 : Int32) (s0 : Int32) : G_X11_gone_22 d l1 l2 s0 h = (if s0 = 0 then some (.int (-1), h) else ck (ib (l1 + s0) 6561) ((if (gI h 79 (ix (l1 + s0))) = 0 then some (.int (-1), h) else some (.int (l1 + s0), h)))) := by
  refine mX_to 2 (k' := 24) (ls' := [some (.ref 67), some (.int l1), some (.int l2), some (.int s0), none, none, none, none]) (st' := [.int s0]) (h' := h) rfl ?_
  refine mX_br (t := 36) (f := 25) (ls' := [some (.ref 67), some (.int l1), some (.int l2), some (.int s0), none, none, none, none]) (st' := []) (h' := h) rfl ?_ ?_
  · refine mX_to 1 (k' := 37) (ls' := [some (.ref 67), some (.int l1), some (.int l2), some (.int s0), none, none, none, none]) (st' := [.int (-1)]) (h' := h) rfl ?_
    exact mX_reti rfl
  · refine mX_to 1 (k' := 26) (ls' := [some (.ref 67), some (.int l1), some (.int l2), some (.int s0), none, none, none, none]) (st' := [.ref 67]) (h' := h) rfl ?_
    refine mX_ckv (v := .ref (gR h 67 28)) (v' := .ref 79) (k' := 27) (ls' := [some (.ref 67), some (.int l1), some (.int l2), some (.int s0), none, none, none, none]) (st' := []) (h' := h) (k_67 L) (congrArg Value.ref (r_67_28 L)) rfl ?_
    refine mX_to 3 (k' := 30) (ls' := [some (.ref 67), some (.int l1), some (.int l2), some (.int s0), none, none, none, none]) (st' := [.int (l1 + s0), .ref 79]) (h' := h) rfl ?_
    refine mX_ckw (v := .int (gI h 79 (ix (l1 + s0)))) (v' := .int (gI h 79 (ix (l1 + s0)))) (k' := 31) (ls' := [some (.ref 67), some (.int l1), some (.int l2), some (.int s0), none, none, none, none]) (st' := []) (h' := h) (ckA1 (k_79 L) (n_79 L)) rfl rfl fun c5 => ?_
    refine mX_br (t := 36) (f := 32) (ls' := [some (.ref 67), some (.int l1), some (.int l2), some (.int s0), none, none, none, none]) (st' := []) (h' := h) rfl ?_ ?_
    · refine mX_to 1 (k' := 37) (ls' := [some (.ref 67), some (.int l1), some (.int l2), some (.int s0), none, none, none, none]) (st' := [.int (-1)]) (h' := h) rfl ?_
      exact mX_reti rfl
    · refine mX_to 4 (k' := 37) (ls' := [some (.ref 67), some (.int l1), some (.int l2), some (.int s0), none, none, none, none]) (st' := [.int (l1 + s0)]) (h' := h) rfl ?_
      exact mX_reti rfl
theorem S_X11_gone_65 {h : MH} (L : lay h) (d : Nat) (l1 : Int32) (l2 : Int32) (l3 : Int32) (l4 : Int32) (l5 : Int32) (s0 : Int32) (s1 : Int32) (s2 : Int32) : G_X11_gone_65 d l1 l2 l3 l4 l5 s0 s1 s2 h = cI (F_X11_stepOf d s2 s1 s0 h) (fun x7 h6 => (if (l3 - l3 / 2 * 2) = 1 then G_X11_gone_78 d l1 l2 l3 l4 l5 x7 1 l5 l1 h6 else G_X11_gone_78 d l1 l2 l3 l4 l5 x7 0 l5 l1 h6)) := by
  refine mX_ckct (m := mcl (mE mtab d 249 [.ref 67, .int s2, .int s1, .int s0] h) 1 66 [some (.ref 67), some (.int l1), some (.int l2), some (.int l3), some (.int l4), some (.int l5), none, none] []) (k_67 L) rfl ?_
  refine mk_cIe (o := F_X11_stepOf d s2 s1 s0 h) ?_
  intro x7 h6 eh6
  have L6 : lay h6 := lay_call d 249 [.ref 67, .int s2, .int s1, .int s0] h _ h6 rfl eh6 L
  refine mX_to 6 (k' := 72) (ls' := [some (.ref 67), some (.int l1), some (.int l2), some (.int l3), some (.int l4), some (.int l5), some (.int x7), none]) (st' := [.int 2, .int l3, .int l5, .int l1, .ref 67]) (h' := h6) rfl ?_
  refine mX_ckt (c := ¬ (2 : Int32) = 0) (k' := 73) (ls' := [some (.ref 67), some (.int l1), some (.int l2), some (.int l3), some (.int l4), some (.int l5), some (.int x7), none]) (st' := [.int (l3 - l3 / 2 * 2), .int l5, .int l1, .ref 67]) (h' := h6) (by decide) rfl ?_
  refine mX_to 1 (k' := 74) (ls' := [some (.ref 67), some (.int l1), some (.int l2), some (.int l3), some (.int l4), some (.int l5), some (.int x7), none]) (st' := [.int 1, .int (l3 - l3 / 2 * 2), .int l5, .int l1, .ref 67]) (h' := h6) rfl ?_
  refine mX_br (t := 75) (f := 77) (ls' := [some (.ref 67), some (.int l1), some (.int l2), some (.int l3), some (.int l4), some (.int l5), some (.int x7), none]) (st' := [.int l5, .int l1, .ref 67]) (h' := h6) rfl ?_ ?_
  · refine mX_to 2 (k' := 78) (ls' := [some (.ref 67), some (.int l1), some (.int l2), some (.int l3), some (.int l4), some (.int l5), some (.int x7), none]) (st' := [.int 1, .int l5, .int l1, .ref 67]) (h' := h6) rfl ?_
    rfl
  · refine mX_to 1 (k' := 78) (ls' := [some (.ref 67), some (.int l1), some (.int l2), some (.int l3), some (.int l4), some (.int l5), some (.int x7), none]) (st' := [.int 0, .int l5, .int l1, .ref 67]) (h' := h6) rfl ?_
    rfl
theorem S_X11_gone_78 {h : MH} (L : lay h) (d : Nat) (l1 : Int32) (l2 : Int32) (l3 : Int32) (l4 : Int32) (l5 : Int32) (l6 : Int32) (s0 : Int32) (s1 : Int32) (s2 : Int32) : G_X11_gone_78 d l1 l2 l3 l4 l5 l6 s0 s1 s2 h = cI (F_X11_stepOf d s2 s1 s0 h) (fun x9 h8 => (if l4 < l5 then (if l6 = 0 then some (.int (-1), h8) else (if x9 = 0 then some (.int (-1), h8) else ck (ib ((l1 + l6) + x9) 6561) ((if (gI h8 79 (ix ((l1 + l6) + x9))) = 0 then some (.int (-1), h8) else some (.int ((l1 + l6) + x9), h8))))) else some (.int (-1), h8))) := by
  refine mX_ckct (m := mcl (mE mtab d 249 [.ref 67, .int s2, .int s1, .int s0] h) 1 79 [some (.ref 67), some (.int l1), some (.int l2), some (.int l3), some (.int l4), some (.int l5), some (.int l6), none] []) (k_67 L) rfl ?_
  refine mk_cIe (o := F_X11_stepOf d s2 s1 s0 h) ?_
  intro x9 h8 eh8
  have L8 : lay h8 := lay_call d 249 [.ref 67, .int s2, .int s1, .int s0] h _ h8 rfl eh8 L
  refine mX_to 3 (k' := 82) (ls' := [some (.ref 67), some (.int l1), some (.int l2), some (.int l3), some (.int l4), some (.int l5), some (.int l6), some (.int x9)]) (st' := [.int l5, .int l4]) (h' := h8) rfl ?_
  refine mX_br (t := 83) (f := 102) (ls' := [some (.ref 67), some (.int l1), some (.int l2), some (.int l3), some (.int l4), some (.int l5), some (.int l6), some (.int x9)]) (st' := []) (h' := h8) rfl ?_ ?_
  · refine mX_to 1 (k' := 84) (ls' := [some (.ref 67), some (.int l1), some (.int l2), some (.int l3), some (.int l4), some (.int l5), some (.int l6), some (.int x9)]) (st' := [.int l6]) (h' := h8) rfl ?_
    refine mX_br (t := 102) (f := 85) (ls' := [some (.ref 67), some (.int l1), some (.int l2), some (.int l3), some (.int l4), some (.int l5), some (.int l6), some (.int x9)]) (st' := []) (h' := h8) rfl ?_ ?_
    · refine mX_to 1 (k' := 103) (ls' := [some (.ref 67), some (.int l1), some (.int l2), some (.int l3), some (.int l4), some (.int l5), some (.int l6), some (.int x9)]) (st' := [.int (-1)]) (h' := h8) rfl ?_
      exact mX_reti rfl
    · refine mX_to 1 (k' := 86) (ls' := [some (.ref 67), some (.int l1), some (.int l2), some (.int l3), some (.int l4), some (.int l5), some (.int l6), some (.int x9)]) (st' := [.int x9]) (h' := h8) rfl ?_
      refine mX_br (t := 102) (f := 87) (ls' := [some (.ref 67), some (.int l1), some (.int l2), some (.int l3), some (.int l4), some (.int l5), some (.int l6), some (.int x9)]) (st' := []) (h' := h8) rfl ?_ ?_
      · refine mX_to 1 (k' := 103) (ls' := [some (.ref 67), some (.int l1), some (.int l2), some (.int l3), some (.int l4), some (.int l5), some (.int l6), some (.int x9)]) (st' := [.int (-1)]) (h' := h8) rfl ?_
        exact mX_reti rfl
      · refine mX_to 1 (k' := 88) (ls' := [some (.ref 67), some (.int l1), some (.int l2), some (.int l3), some (.int l4), some (.int l5), some (.int l6), some (.int x9)]) (st' := [.ref 67]) (h' := h8) rfl ?_
        refine mX_ckv (v := .ref (gR h8 67 28)) (v' := .ref 79) (k' := 89) (ls' := [some (.ref 67), some (.int l1), some (.int l2), some (.int l3), some (.int l4), some (.int l5), some (.int l6), some (.int x9)]) (st' := []) (h' := h8) (k_67 L8) (congrArg Value.ref (r_67_28 L8)) rfl ?_
        refine mX_to 5 (k' := 94) (ls' := [some (.ref 67), some (.int l1), some (.int l2), some (.int l3), some (.int l4), some (.int l5), some (.int l6), some (.int x9)]) (st' := [.int ((l1 + l6) + x9), .ref 79]) (h' := h8) rfl ?_
        refine mX_ckw (v := .int (gI h8 79 (ix ((l1 + l6) + x9)))) (v' := .int (gI h8 79 (ix ((l1 + l6) + x9)))) (k' := 95) (ls' := [some (.ref 67), some (.int l1), some (.int l2), some (.int l3), some (.int l4), some (.int l5), some (.int l6), some (.int x9)]) (st' := []) (h' := h8) (ckA1 (k_79 L8) (n_79 L8)) rfl rfl fun c10 => ?_
        refine mX_br (t := 102) (f := 96) (ls' := [some (.ref 67), some (.int l1), some (.int l2), some (.int l3), some (.int l4), some (.int l5), some (.int l6), some (.int x9)]) (st' := []) (h' := h8) rfl ?_ ?_
        · refine mX_to 1 (k' := 103) (ls' := [some (.ref 67), some (.int l1), some (.int l2), some (.int l3), some (.int l4), some (.int l5), some (.int l6), some (.int x9)]) (st' := [.int (-1)]) (h' := h8) rfl ?_
          exact mX_reti rfl
        · refine mX_to 6 (k' := 103) (ls' := [some (.ref 67), some (.int l1), some (.int l2), some (.int l3), some (.int l4), some (.int l5), some (.int l6), some (.int x9)]) (st' := [.int ((l1 + l6) + x9)]) (h' := h8) rfl ?_
          exact mX_reti rfl
  · refine mX_to 1 (k' := 103) (ls' := [some (.ref 67), some (.int l1), some (.int l2), some (.int l3), some (.int l4), some (.int l5), some (.int l6), some (.int x9)]) (st' := [.int (-1)]) (h' := h8) rfl ?_
    exact mX_reti rfl
theorem S_X11_gone {h : MH} (L : lay h) (d : Nat) (a1 : Int32) (a2 : Int32) : F_X11_gone (d + 1) a1 a2 h = (if a2 < 10 then (if a2 < 8 then (if (a2 - a2 / 2 * 2) = 1 then G_X11_gone_19 d a1 a2 1 (a2 / 2) a1 h else G_X11_gone_19 d a1 a2 0 (a2 / 2) a1 h) else G_X11_gone_22 d a1 a2 0 h) else lt_ ((a2 - 10) / 16) fun v1 => lt_ (((a2 - 10) - (a2 - 10) / 8 * 8) / 2) fun v2 => (if (((a2 - 10) / 8) - ((a2 - 10) / 8) / 2 * 2) = 1 then G_X11_gone_65 d a1 a2 (a2 - 10) v1 v2 1 v1 a1 h else G_X11_gone_65 d a1 a2 (a2 - 10) v1 v2 0 v1 a1 h)) := by
  refine mE_eq (q := (yX11_gone, cX11_gone, 8, (some .int), KX11_gone)) (C := KX11_gone) (ls := [some (.ref 67), some (.int a1), some (.int a2), none, none, none, none, none]) rfl rfl rfl rfl ?_
  refine mX_to 2 (k' := 2) (ls' := [some (.ref 67), some (.int a1), some (.int a2), none, none, none, none, none]) (st' := [.int 10, .int a2]) (h' := h) rfl ?_
  refine mX_br (t := 3) (f := 38) (ls' := [some (.ref 67), some (.int a1), some (.int a2), none, none, none, none, none]) (st' := []) (h' := h) rfl ?_ ?_
  · refine mX_to 2 (k' := 5) (ls' := [some (.ref 67), some (.int a1), some (.int a2), none, none, none, none, none]) (st' := [.int 8, .int a2]) (h' := h) rfl ?_
    refine mX_br (t := 6) (f := 21) (ls' := [some (.ref 67), some (.int a1), some (.int a2), none, none, none, none, none]) (st' := []) (h' := h) rfl ?_ ?_
    · refine mX_to 4 (k' := 10) (ls' := [some (.ref 67), some (.int a1), some (.int a2), none, none, none, none, none]) (st' := [.int 2, .int a2, .int a1, .ref 67]) (h' := h) rfl ?_
      refine mX_ckt (c := ¬ (2 : Int32) = 0) (k' := 11) (ls' := [some (.ref 67), some (.int a1), some (.int a2), none, none, none, none, none]) (st' := [.int (a2 / 2), .int a1, .ref 67]) (h' := h) (by decide) rfl ?_
      refine mX_to 2 (k' := 13) (ls' := [some (.ref 67), some (.int a1), some (.int a2), none, none, none, none, none]) (st' := [.int 2, .int a2, .int (a2 / 2), .int a1, .ref 67]) (h' := h) rfl ?_
      refine mX_ckt (c := ¬ (2 : Int32) = 0) (k' := 14) (ls' := [some (.ref 67), some (.int a1), some (.int a2), none, none, none, none, none]) (st' := [.int (a2 - a2 / 2 * 2), .int (a2 / 2), .int a1, .ref 67]) (h' := h) (by decide) rfl ?_
      refine mX_to 1 (k' := 15) (ls' := [some (.ref 67), some (.int a1), some (.int a2), none, none, none, none, none]) (st' := [.int 1, .int (a2 - a2 / 2 * 2), .int (a2 / 2), .int a1, .ref 67]) (h' := h) rfl ?_
      refine mX_br (t := 16) (f := 18) (ls' := [some (.ref 67), some (.int a1), some (.int a2), none, none, none, none, none]) (st' := [.int (a2 / 2), .int a1, .ref 67]) (h' := h) rfl ?_ ?_
      · refine mX_to 2 (k' := 19) (ls' := [some (.ref 67), some (.int a1), some (.int a2), none, none, none, none, none]) (st' := [.int 1, .int (a2 / 2), .int a1, .ref 67]) (h' := h) rfl ?_
        rfl
      · refine mX_to 1 (k' := 19) (ls' := [some (.ref 67), some (.int a1), some (.int a2), none, none, none, none, none]) (st' := [.int 0, .int (a2 / 2), .int a1, .ref 67]) (h' := h) rfl ?_
        rfl
    · refine mX_to 1 (k' := 22) (ls' := [some (.ref 67), some (.int a1), some (.int a2), none, none, none, none, none]) (st' := [.int 0]) (h' := h) rfl ?_
      rfl
  · refine mX_to 6 (k' := 44) (ls' := [some (.ref 67), some (.int a1), some (.int a2), some (.int (a2 - 10)), none, none, none, none]) (st' := [.int 16, .int (a2 - 10)]) (h' := h) rfl ?_
    refine mX_ckt (c := ¬ (16 : Int32) = 0) (k' := 45) (ls' := [some (.ref 67), some (.int a1), some (.int a2), some (.int (a2 - 10)), none, none, none, none]) (st' := [.int ((a2 - 10) / 16)]) (h' := h) (by decide) rfl ?_
    refine lt_gen (X := fun v1 : Int32 => mX (mE mtab d) KX11_gone 45 [some (.ref 67), some (.int a1), some (.int a2), some (.int (a2 - 10)), none, none, none, none] [.int v1] h) fun v1 => ?_
    refine mX_to 3 (k' := 48) (ls' := [some (.ref 67), some (.int a1), some (.int a2), some (.int (a2 - 10)), some (.int v1), none, none, none]) (st' := [.int 8, .int (a2 - 10)]) (h' := h) rfl ?_
    refine mX_ckt (c := ¬ (8 : Int32) = 0) (k' := 49) (ls' := [some (.ref 67), some (.int a1), some (.int a2), some (.int (a2 - 10)), some (.int v1), none, none, none]) (st' := [.int ((a2 - 10) - (a2 - 10) / 8 * 8)]) (h' := h) (by decide) rfl ?_
    refine mX_to 1 (k' := 50) (ls' := [some (.ref 67), some (.int a1), some (.int a2), some (.int (a2 - 10)), some (.int v1), none, none, none]) (st' := [.int 2, .int ((a2 - 10) - (a2 - 10) / 8 * 8)]) (h' := h) rfl ?_
    refine mX_ckt (c := ¬ (2 : Int32) = 0) (k' := 51) (ls' := [some (.ref 67), some (.int a1), some (.int a2), some (.int (a2 - 10)), some (.int v1), none, none, none]) (st' := [.int (((a2 - 10) - (a2 - 10) / 8 * 8) / 2)]) (h' := h) (by decide) rfl ?_
    refine lt_gen (X := fun v2 : Int32 => mX (mE mtab d) KX11_gone 51 [some (.ref 67), some (.int a1), some (.int a2), some (.int (a2 - 10)), some (.int v1), none, none, none] [.int v2] h) fun v2 => ?_
    refine mX_to 6 (k' := 57) (ls' := [some (.ref 67), some (.int a1), some (.int a2), some (.int (a2 - 10)), some (.int v1), some (.int v2), none, none]) (st' := [.int 8, .int (a2 - 10), .int v1, .int a1, .ref 67]) (h' := h) rfl ?_
    refine mX_ckt (c := ¬ (8 : Int32) = 0) (k' := 58) (ls' := [some (.ref 67), some (.int a1), some (.int a2), some (.int (a2 - 10)), some (.int v1), some (.int v2), none, none]) (st' := [.int ((a2 - 10) / 8), .int v1, .int a1, .ref 67]) (h' := h) (by decide) rfl ?_
    refine mX_to 1 (k' := 59) (ls' := [some (.ref 67), some (.int a1), some (.int a2), some (.int (a2 - 10)), some (.int v1), some (.int v2), none, none]) (st' := [.int 2, .int ((a2 - 10) / 8), .int v1, .int a1, .ref 67]) (h' := h) rfl ?_
    refine mX_ckt (c := ¬ (2 : Int32) = 0) (k' := 60) (ls' := [some (.ref 67), some (.int a1), some (.int a2), some (.int (a2 - 10)), some (.int v1), some (.int v2), none, none]) (st' := [.int (((a2 - 10) / 8) - ((a2 - 10) / 8) / 2 * 2), .int v1, .int a1, .ref 67]) (h' := h) (by decide) rfl ?_
    refine mX_to 1 (k' := 61) (ls' := [some (.ref 67), some (.int a1), some (.int a2), some (.int (a2 - 10)), some (.int v1), some (.int v2), none, none]) (st' := [.int 1, .int (((a2 - 10) / 8) - ((a2 - 10) / 8) / 2 * 2), .int v1, .int a1, .ref 67]) (h' := h) rfl ?_
    refine mX_br (t := 62) (f := 64) (ls' := [some (.ref 67), some (.int a1), some (.int a2), some (.int (a2 - 10)), some (.int v1), some (.int v2), none, none]) (st' := [.int v1, .int a1, .ref 67]) (h' := h) rfl ?_ ?_
    · refine mX_to 2 (k' := 65) (ls' := [some (.ref 67), some (.int a1), some (.int a2), some (.int (a2 - 10)), some (.int v1), some (.int v2), none, none]) (st' := [.int 1, .int v1, .int a1, .ref 67]) (h' := h) rfl ?_
      rfl
    · refine mX_to 1 (k' := 65) (ls' := [some (.ref 67), some (.int a1), some (.int a2), some (.int (a2 - 10)), some (.int v1), some (.int v2), none, none]) (st' := [.int 0, .int v1, .int a1, .ref 67]) (h' := h) rfl ?_
      rfl
theorem S_X11_spread_4 {h : MH} (L : lay h) (d : Nat) (l1 : Int32) (l2 : Int32) (l3 : Int32) (l4 : Int32) (o5 : Option Value) (o6 : Option Value) : G_X11_spread_4 d l1 l2 l3 l4 o5 o6 h = (if l4 < l3 then G_X11_spread_9 d l1 l2 l3 l4 0 (o6) h else some (.int l3, h)) := by
  refine mX_to 2 (k' := 6) (ls' := [some (.ref 67), some (.int l1), some (.int l2), some (.int l3), some (.int l4), o5, o6]) (st' := [.int l3, .int l4]) (h' := h) rfl ?_
  refine mX_br (t := 7) (f := 53) (ls' := [some (.ref 67), some (.int l1), some (.int l2), some (.int l3), some (.int l4), o5, o6]) (st' := []) (h' := h) rfl ?_ ?_
  · refine mX_to 2 (k' := 9) (ls' := [some (.ref 67), some (.int l1), some (.int l2), some (.int l3), some (.int l4), some (.int 0), o6]) (st' := []) (h' := h) rfl ?_
    rfl
  · refine mX_to 1 (k' := 54) (ls' := [some (.ref 67), some (.int l1), some (.int l2), some (.int l3), some (.int l4), o5, o6]) (st' := [.int l3]) (h' := h) rfl ?_
    exact mX_reti rfl
theorem S_X11_spread_9 {h : MH} (L : lay h) (d : Nat) (l1 : Int32) (l2 : Int32) (l3 : Int32) (l4 : Int32) (l5 : Int32) (o6 : Option Value) : G_X11_spread_9 d l1 l2 l3 l4 l5 o6 h = (if l5 < l2 then ck (ib l4 6561) (cI (F_X11_gone d (gI h 78 (ix l4)) l5 h) (fun x2 h1 => (if x2 = (-1) then G_X11_spread_49 d l1 l2 l3 l4 l5 x2 h1 else ck (ib x2 6561) ((if (gI h1 77 (ix x2)) = (-1) then ck (ib l4 6561) (ck (ib (gI h1 78 (ix l4)) 6561) (ck (ib x2 6561) (lt_ (sI h1 77 (ix x2) ((gI h1 77 (ix (gI h1 78 (ix l4)))) + 1)) fun h4 => ck (ib l3 6561) (lt_ (sI h4 78 (ix l3) x2) fun h6 => G_X11_spread_49 d l1 l2 (l3 + 1) l4 l5 x2 h6)))) else G_X11_spread_49 d l1 l2 l3 l4 l5 x2 h1))))) else G_X11_spread_4 d l1 l2 l3 (l4 + 1) (some (.int l5)) (o6) h) := by
  refine mX_to 2 (k' := 11) (ls' := [some (.ref 67), some (.int l1), some (.int l2), some (.int l3), some (.int l4), some (.int l5), o6]) (st' := [.int l2, .int l5]) (h' := h) rfl ?_
  refine mX_br (t := 12) (f := 51) (ls' := [some (.ref 67), some (.int l1), some (.int l2), some (.int l3), some (.int l4), some (.int l5), o6]) (st' := []) (h' := h) rfl ?_ ?_
  · refine mX_to 2 (k' := 14) (ls' := [some (.ref 67), some (.int l1), some (.int l2), some (.int l3), some (.int l4), some (.int l5), o6]) (st' := [.ref 67, .ref 67]) (h' := h) rfl ?_
    refine mX_ckv (v := .ref (gR h 67 27)) (v' := .ref 78) (k' := 15) (ls' := [some (.ref 67), some (.int l1), some (.int l2), some (.int l3), some (.int l4), some (.int l5), o6]) (st' := [.ref 67]) (h' := h) (k_67 L) (congrArg Value.ref (r_67_27 L)) rfl ?_
    refine mX_to 1 (k' := 16) (ls' := [some (.ref 67), some (.int l1), some (.int l2), some (.int l3), some (.int l4), some (.int l5), o6]) (st' := [.int l4, .ref 78, .ref 67]) (h' := h) rfl ?_
    refine mX_ckw (v := .int (gI h 78 (ix l4))) (v' := .int (gI h 78 (ix l4))) (k' := 17) (ls' := [some (.ref 67), some (.int l1), some (.int l2), some (.int l3), some (.int l4), some (.int l5), o6]) (st' := [.ref 67]) (h' := h) (ckA1 (k_78 L) (n_78 L)) rfl rfl fun c10 => ?_
    refine mX_to 1 (k' := 18) (ls' := [some (.ref 67), some (.int l1), some (.int l2), some (.int l3), some (.int l4), some (.int l5), o6]) (st' := [.int l5, .int (gI h 78 (ix l4)), .ref 67]) (h' := h) rfl ?_
    refine mX_ckct (m := mcl (mE mtab d 250 [.ref 67, .int (gI h 78 (ix l4)), .int l5] h) 1 19 [some (.ref 67), some (.int l1), some (.int l2), some (.int l3), some (.int l4), some (.int l5), o6] []) (k_67 L) rfl ?_
    refine mk_cIe (o := F_X11_gone d (gI h 78 (ix l4)) l5 h) ?_
    intro x2 h1 eh1
    have L1 : lay h1 := lay_call d 250 [.ref 67, .int (gI h 78 (ix l4)), .int l5] h _ h1 rfl eh1 L
    refine mX_to 3 (k' := 22) (ls' := [some (.ref 67), some (.int l1), some (.int l2), some (.int l3), some (.int l4), some (.int l5), some (.int x2)]) (st' := [.int (-1), .int x2]) (h' := h1) rfl ?_
    refine mX_br (t := 49) (f := 23) (ls' := [some (.ref 67), some (.int l1), some (.int l2), some (.int l3), some (.int l4), some (.int l5), some (.int x2)]) (st' := []) (h' := h1) rfl ?_ ?_
    · rfl
    · refine mX_to 1 (k' := 24) (ls' := [some (.ref 67), some (.int l1), some (.int l2), some (.int l3), some (.int l4), some (.int l5), some (.int x2)]) (st' := [.ref 67]) (h' := h1) rfl ?_
      refine mX_ckv (v := .ref (gR h1 67 26)) (v' := .ref 77) (k' := 25) (ls' := [some (.ref 67), some (.int l1), some (.int l2), some (.int l3), some (.int l4), some (.int l5), some (.int x2)]) (st' := []) (h' := h1) (k_67 L1) (congrArg Value.ref (r_67_26 L1)) rfl ?_
      refine mX_to 1 (k' := 26) (ls' := [some (.ref 67), some (.int l1), some (.int l2), some (.int l3), some (.int l4), some (.int l5), some (.int x2)]) (st' := [.int x2, .ref 77]) (h' := h1) rfl ?_
      refine mX_ckw (v := .int (gI h1 77 (ix x2))) (v' := .int (gI h1 77 (ix x2))) (k' := 27) (ls' := [some (.ref 67), some (.int l1), some (.int l2), some (.int l3), some (.int l4), some (.int l5), some (.int x2)]) (st' := []) (h' := h1) (ckA1 (k_77 L1) (n_77 L1)) rfl rfl fun c9 => ?_
      refine mX_to 1 (k' := 28) (ls' := [some (.ref 67), some (.int l1), some (.int l2), some (.int l3), some (.int l4), some (.int l5), some (.int x2)]) (st' := [.int (-1), .int (gI h1 77 (ix x2))]) (h' := h1) rfl ?_
      refine mX_br (t := 30) (f := 29) (ls' := [some (.ref 67), some (.int l1), some (.int l2), some (.int l3), some (.int l4), some (.int l5), some (.int x2)]) (st' := []) (h' := h1) rfl ?_ ?_
      · refine mX_to 1 (k' := 31) (ls' := [some (.ref 67), some (.int l1), some (.int l2), some (.int l3), some (.int l4), some (.int l5), some (.int x2)]) (st' := [.ref 67]) (h' := h1) rfl ?_
        refine mX_ckv (v := .ref (gR h1 67 26)) (v' := .ref 77) (k' := 32) (ls' := [some (.ref 67), some (.int l1), some (.int l2), some (.int l3), some (.int l4), some (.int l5), some (.int x2)]) (st' := []) (h' := h1) (k_67 L1) (congrArg Value.ref (r_67_26 L1)) rfl ?_
        refine mX_to 2 (k' := 34) (ls' := [some (.ref 67), some (.int l1), some (.int l2), some (.int l3), some (.int l4), some (.int l5), some (.int x2)]) (st' := [.ref 67, .int x2, .ref 77]) (h' := h1) rfl ?_
        refine mX_ckv (v := .ref (gR h1 67 26)) (v' := .ref 77) (k' := 35) (ls' := [some (.ref 67), some (.int l1), some (.int l2), some (.int l3), some (.int l4), some (.int l5), some (.int x2)]) (st' := [.int x2, .ref 77]) (h' := h1) (k_67 L1) (congrArg Value.ref (r_67_26 L1)) rfl ?_
        refine mX_to 1 (k' := 36) (ls' := [some (.ref 67), some (.int l1), some (.int l2), some (.int l3), some (.int l4), some (.int l5), some (.int x2)]) (st' := [.ref 67, .ref 77, .int x2, .ref 77]) (h' := h1) rfl ?_
        refine mX_ckv (v := .ref (gR h1 67 27)) (v' := .ref 78) (k' := 37) (ls' := [some (.ref 67), some (.int l1), some (.int l2), some (.int l3), some (.int l4), some (.int l5), some (.int x2)]) (st' := [.ref 77, .int x2, .ref 77]) (h' := h1) (k_67 L1) (congrArg Value.ref (r_67_27 L1)) rfl ?_
        refine mX_to 1 (k' := 38) (ls' := [some (.ref 67), some (.int l1), some (.int l2), some (.int l3), some (.int l4), some (.int l5), some (.int x2)]) (st' := [.int l4, .ref 78, .ref 77, .int x2, .ref 77]) (h' := h1) rfl ?_
        refine mX_ckw (v := .int (gI h1 78 (ix l4))) (v' := .int (gI h1 78 (ix l4))) (k' := 39) (ls' := [some (.ref 67), some (.int l1), some (.int l2), some (.int l3), some (.int l4), some (.int l5), some (.int x2)]) (st' := [.ref 77, .int x2, .ref 77]) (h' := h1) (ckA1 (k_78 L1) (n_78 L1)) rfl rfl fun c8 => ?_
        refine mX_ckw (v := .int (gI h1 77 (ix (gI h1 78 (ix l4))))) (v' := .int (gI h1 77 (ix (gI h1 78 (ix l4))))) (k' := 40) (ls' := [some (.ref 67), some (.int l1), some (.int l2), some (.int l3), some (.int l4), some (.int l5), some (.int x2)]) (st' := [.int x2, .ref 77]) (h' := h1) (ckA1 (k_77 L1) (n_77 L1)) rfl rfl fun c7 => ?_
        refine mX_to 2 (k' := 42) (ls' := [some (.ref 67), some (.int l1), some (.int l2), some (.int l3), some (.int l4), some (.int l5), some (.int x2)]) (st' := [.int ((gI h1 77 (ix (gI h1 78 (ix l4)))) + 1), .int x2, .ref 77]) (h' := h1) rfl ?_
        refine mX_cki (k' := 43) (ls' := [some (.ref 67), some (.int l1), some (.int l2), some (.int l3), some (.int l4), some (.int l5), some (.int x2)]) (st' := []) (h' := (sI h1 77 (ix x2) ((gI h1 77 (ix (gI h1 78 (ix l4)))) + 1))) (ckA0 (k_77 L1) (n_77 L1)) rfl fun c3 => ?_
        refine lt_geq2 (X := fun h4 : MH => mX (mE mtab d) KX11_spread 43 [some (.ref 67), some (.int l1), some (.int l2), some (.int l3), some (.int l4), some (.int l5), some (.int x2)] [] h4) (a := (sI h1 77 (ix x2) ((gI h1 77 (ix (gI h1 78 (ix l4)))) + 1))) (a' := (sI h1 77 (ix x2) ((gI h1 77 (ix (gI h1 78 (ix l4)))) + 1))) rfl fun h4 eh4 => ?_
        have L4 : lay h4 := eh4 ▸ layI L1 (by decide)
        refine mX_to 1 (k' := 44) (ls' := [some (.ref 67), some (.int l1), some (.int l2), some (.int l3), some (.int l4), some (.int l5), some (.int x2)]) (st' := [.ref 67]) (h' := h4) rfl ?_
        refine mX_ckv (v := .ref (gR h4 67 27)) (v' := .ref 78) (k' := 45) (ls' := [some (.ref 67), some (.int l1), some (.int l2), some (.int l3), some (.int l4), some (.int l5), some (.int x2)]) (st' := []) (h' := h4) (k_67 L4) (congrArg Value.ref (r_67_27 L4)) rfl ?_
        refine mX_to 2 (k' := 47) (ls' := [some (.ref 67), some (.int l1), some (.int l2), some (.int l3), some (.int l4), some (.int l5), some (.int x2)]) (st' := [.int x2, .int l3, .ref 78]) (h' := h4) rfl ?_
        refine mX_cki (k' := 48) (ls' := [some (.ref 67), some (.int l1), some (.int l2), some (.int l3), some (.int l4), some (.int l5), some (.int x2)]) (st' := []) (h' := (sI h4 78 (ix l3) x2)) (ckA0 (k_78 L4) (n_78 L4)) rfl fun c5 => ?_
        refine lt_geq2 (X := fun h6 : MH => mX (mE mtab d) KX11_spread 48 [some (.ref 67), some (.int l1), some (.int l2), some (.int l3), some (.int l4), some (.int l5), some (.int x2)] [] h6) (a := (sI h4 78 (ix l3) x2)) (a' := (sI h4 78 (ix l3) x2)) rfl fun h6 eh6 => ?_
        have L6 : lay h6 := eh6 ▸ layI L4 (by decide)
        refine mX_to 1 (k' := 49) (ls' := [some (.ref 67), some (.int l1), some (.int l2), some (.int (l3 + 1)), some (.int l4), some (.int l5), some (.int x2)]) (st' := []) (h' := h6) rfl ?_
        rfl
      · refine mX_to 1 (k' := 49) (ls' := [some (.ref 67), some (.int l1), some (.int l2), some (.int l3), some (.int l4), some (.int l5), some (.int x2)]) (st' := []) (h' := h1) rfl ?_
        rfl
  · refine mX_to 2 (k' := 4) (ls' := [some (.ref 67), some (.int l1), some (.int l2), some (.int l3), some (.int (l4 + 1)), some (.int l5), o6]) (st' := []) (h' := h) rfl ?_
    rfl
theorem S_X11_spread_49 {h : MH} (L : lay h) (d : Nat) (l1 : Int32) (l2 : Int32) (l3 : Int32) (l4 : Int32) (l5 : Int32) (l6 : Int32) : G_X11_spread_49 d l1 l2 l3 l4 l5 l6 h = G_X11_spread_9 d l1 l2 l3 l4 (l5 + 1) (some (.int l6)) h := by
  refine mX_to 2 (k' := 9) (ls' := [some (.ref 67), some (.int l1), some (.int l2), some (.int l3), some (.int l4), some (.int (l5 + 1)), some (.int l6)]) (st' := []) (h' := h) rfl ?_
  rfl
theorem S_X11_spread {h : MH} (L : lay h) (d : Nat) (a1 : Int32) (a2 : Int32) : F_X11_spread (d + 1) a1 a2 h = G_X11_spread_4 d a1 a2 a1 0 none none h := by
  refine mE_eq (q := (yX11_spread, cX11_spread, 7, (some .int), KX11_spread)) (C := KX11_spread) (ls := [some (.ref 67), some (.int a1), some (.int a2), none, none, none, none]) rfl rfl rfl rfl ?_
  refine mX_to 4 (k' := 4) (ls' := [some (.ref 67), some (.int a1), some (.int a2), some (.int a1), some (.int 0), none, none]) (st' := []) (h' := h) rfl ?_
  rfl
theorem S_X11_layFars_6 {h : MH} (L : lay h) (d : Nat) (l1 : Int32) (l2 : Int32) (l3 : Int32) : G_X11_layFars_6 d l1 l2 l3 h = cI (F_X11_nines d (gI h 68 0) h) (fun x3 h2 => (if l3 < x3 then ck (ib l3 6561) ((if (gI h2 79 (ix l3)) = 0 then G_X11_layFars_27 d l1 l2 l3 l3 h2 else cI (F_X11_areThere d l3 h2) (fun x5 h4 => (if x5 = 0 then G_X11_layFars_27 d l1 l2 l3 l3 h4 else G_X11_layFars_28 d l1 l2 l3 0 l3 h4)))) else cI (F_X11_top d l1 h2) (fun x8 h7 => cI (F_X11_spread d l2 x8 h7) (fun x10 h9 => (if x10 < 0 then some (.int 0, h9) else some (.int 0, h9)))))) := by
  refine mX_to 2 (k' := 8) (ls' := [some (.ref 67), some (.int l1), some (.int l2), some (.int l3)]) (st' := [.ref 67, .int l3]) (h' := h) rfl ?_
  refine mX_ckv (v := .ref (gR h 67 0)) (v' := .ref 68) (k' := 9) (ls' := [some (.ref 67), some (.int l1), some (.int l2), some (.int l3)]) (st' := [.int l3]) (h' := h) (k_67 L) (congrArg Value.ref (r_67_0 L)) rfl ?_
  refine mX_to 1 (k' := 10) (ls' := [some (.ref 67), some (.int l1), some (.int l2), some (.int l3)]) (st' := [.int 0, .ref 68, .int l3]) (h' := h) rfl ?_
  refine mX_ckv (v := .int (gI h 68 (ix (0 : Int32)))) (v' := .int (gI h 68 0)) (k' := 11) (ls' := [some (.ref 67), some (.int l1), some (.int l2), some (.int l3)]) (st' := [.int l3]) (h' := h) ((ckA1 (k_68 L) (n_68 L)).mpr (ib_lit (n := 0) rfl (by decide) (by decide))) (congrArg (fun j => Value.int (gI h 68 j)) (ix_lit (n := 0) rfl (by decide))) rfl ?_
  refine mX_cIe (o := F_X11_nines d (gI h 68 0) h) (k' := 12) (ls' := [some (.ref 67), some (.int l1), some (.int l2), some (.int l3)]) (st' := [.int l3]) rfl ?_
  intro x3 h2 eh2
  have L2 : lay h2 := lay_call d 244 [.int (gI h 68 0)] h _ h2 rfl eh2 L
  refine mX_br (t := 13) (f := 44) (ls' := [some (.ref 67), some (.int l1), some (.int l2), some (.int l3)]) (st' := []) (h' := h2) rfl ?_ ?_
  · refine mX_to 1 (k' := 14) (ls' := [some (.ref 67), some (.int l1), some (.int l2), some (.int l3)]) (st' := [.ref 67]) (h' := h2) rfl ?_
    refine mX_ckv (v := .ref (gR h2 67 26)) (v' := .ref 77) (k' := 15) (ls' := [some (.ref 67), some (.int l1), some (.int l2), some (.int l3)]) (st' := []) (h' := h2) (k_67 L2) (congrArg Value.ref (r_67_26 L2)) rfl ?_
    refine mX_to 2 (k' := 17) (ls' := [some (.ref 67), some (.int l1), some (.int l2), some (.int l3)]) (st' := [.ref 67, .int l3, .ref 77]) (h' := h2) rfl ?_
    refine mX_ckv (v := .ref (gR h2 67 28)) (v' := .ref 79) (k' := 18) (ls' := [some (.ref 67), some (.int l1), some (.int l2), some (.int l3)]) (st' := [.int l3, .ref 77]) (h' := h2) (k_67 L2) (congrArg Value.ref (r_67_28 L2)) rfl ?_
    refine mX_to 1 (k' := 19) (ls' := [some (.ref 67), some (.int l1), some (.int l2), some (.int l3)]) (st' := [.int l3, .ref 79, .int l3, .ref 77]) (h' := h2) rfl ?_
    refine mX_ckw (v := .int (gI h2 79 (ix l3))) (v' := .int (gI h2 79 (ix l3))) (k' := 20) (ls' := [some (.ref 67), some (.int l1), some (.int l2), some (.int l3)]) (st' := [.int l3, .ref 77]) (h' := h2) (ckA1 (k_79 L2) (n_79 L2)) rfl rfl fun c6 => ?_
    refine mX_br (t := 27) (f := 21) (ls' := [some (.ref 67), some (.int l1), some (.int l2), some (.int l3)]) (st' := [.int l3, .ref 77]) (h' := h2) rfl ?_ ?_
    · rfl
    · refine mX_to 2 (k' := 23) (ls' := [some (.ref 67), some (.int l1), some (.int l2), some (.int l3)]) (st' := [.int l3, .ref 67, .int l3, .ref 77]) (h' := h2) rfl ?_
      refine mX_ckct (m := mcl (mE mtab d 247 [.ref 67, .int l3] h2) 1 24 [some (.ref 67), some (.int l1), some (.int l2), some (.int l3)] [.int l3, .ref 77]) (k_67 L2) rfl ?_
      refine mk_cIe (o := F_X11_areThere d l3 h2) ?_
      intro x5 h4 eh4
      have L4 : lay h4 := lay_call d 247 [.ref 67, .int l3] h2 _ h4 rfl eh4 L2
      refine mX_br (t := 27) (f := 25) (ls' := [some (.ref 67), some (.int l1), some (.int l2), some (.int l3)]) (st' := [.int l3, .ref 77]) (h' := h4) rfl ?_ ?_
      · rfl
      · refine mX_to 2 (k' := 28) (ls' := [some (.ref 67), some (.int l1), some (.int l2), some (.int l3)]) (st' := [.int 0, .int l3, .ref 77]) (h' := h4) rfl ?_
        rfl
  · refine mX_to 3 (k' := 47) (ls' := [some (.ref 67), some (.int l1), some (.int l2), some (.int l3)]) (st' := [.int l1, .int l2, .ref 67]) (h' := h2) rfl ?_
    refine mX_cIe (o := F_X11_top d l1 h2) (k' := 48) (ls' := [some (.ref 67), some (.int l1), some (.int l2), some (.int l3)]) (st' := [.int l2, .ref 67]) rfl ?_
    intro x8 h7 eh7
    have L7 : lay h7 := lay_call d 248 [.int l1] h2 _ h7 rfl eh7 L2
    refine mX_ckct (m := mcl (mE mtab d 251 [.ref 67, .int l2, .int x8] h7) 1 49 [some (.ref 67), some (.int l1), some (.int l2), some (.int l3)] []) (k_67 L7) rfl ?_
    refine mk_cIe (o := F_X11_spread d l2 x8 h7) ?_
    intro x10 h9 eh9
    have L9 : lay h9 := lay_call d 251 [.ref 67, .int l2, .int x8] h7 _ h9 rfl eh9 L7
    refine mX_br (t := 50) (f := 51) (ls' := [some (.ref 67), some (.int l1), some (.int l2), some (.int l3)]) (st' := []) (h' := h9) rfl ?_ ?_
    · exact mX_ret rfl
    · exact mX_ret rfl
theorem S_X11_layFars_27 {h : MH} (L : lay h) (d : Nat) (l1 : Int32) (l2 : Int32) (l3 : Int32) (s0 : Int32) : G_X11_layFars_27 d l1 l2 l3 s0 h = G_X11_layFars_28 d l1 l2 l3 (-1) s0 h := by
  refine mX_to 1 (k' := 28) (ls' := [some (.ref 67), some (.int l1), some (.int l2), some (.int l3)]) (st' := [.int (-1), .int s0, .ref 77]) (h' := h) rfl ?_
  rfl
theorem S_X11_layFars_28 {h : MH} (L : lay h) (d : Nat) (l1 : Int32) (l2 : Int32) (l3 : Int32) (s0 : Int32) (s1 : Int32) : G_X11_layFars_28 d l1 l2 l3 s0 s1 h = ck (ib s1 6561) (lt_ (sI h 77 (ix s1) s0) fun h12 => ck (ib l3 6561) ((if (gI h12 77 (ix l3)) = (-1) then G_X11_layFars_42 d l1 l2 l3 h12 else ck (ib l2 6561) (lt_ (sI h12 78 (ix l2) l3) fun h14 => G_X11_layFars_42 d l1 (l2 + 1) l3 h14)))) := by
  refine mX_cki (k' := 29) (ls' := [some (.ref 67), some (.int l1), some (.int l2), some (.int l3)]) (st' := []) (h' := (sI h 77 (ix s1) s0)) (ckA0 (k_77 L) (n_77 L)) rfl fun c11 => ?_
  refine lt_geq2 (X := fun h12 : MH => mX (mE mtab d) KX11_layFars 29 [some (.ref 67), some (.int l1), some (.int l2), some (.int l3)] [] h12) (a := (sI h 77 (ix s1) s0)) (a' := (sI h 77 (ix s1) s0)) rfl fun h12 eh12 => ?_
  have L12 : lay h12 := eh12 ▸ layI L (by decide)
  refine mX_to 1 (k' := 30) (ls' := [some (.ref 67), some (.int l1), some (.int l2), some (.int l3)]) (st' := [.ref 67]) (h' := h12) rfl ?_
  refine mX_ckv (v := .ref (gR h12 67 26)) (v' := .ref 77) (k' := 31) (ls' := [some (.ref 67), some (.int l1), some (.int l2), some (.int l3)]) (st' := []) (h' := h12) (k_67 L12) (congrArg Value.ref (r_67_26 L12)) rfl ?_
  refine mX_to 1 (k' := 32) (ls' := [some (.ref 67), some (.int l1), some (.int l2), some (.int l3)]) (st' := [.int l3, .ref 77]) (h' := h12) rfl ?_
  refine mX_ckw (v := .int (gI h12 77 (ix l3))) (v' := .int (gI h12 77 (ix l3))) (k' := 33) (ls' := [some (.ref 67), some (.int l1), some (.int l2), some (.int l3)]) (st' := []) (h' := h12) (ckA1 (k_77 L12) (n_77 L12)) rfl rfl fun c15 => ?_
  refine mX_to 1 (k' := 34) (ls' := [some (.ref 67), some (.int l1), some (.int l2), some (.int l3)]) (st' := [.int (-1), .int (gI h12 77 (ix l3))]) (h' := h12) rfl ?_
  refine mX_br (t := 35) (f := 36) (ls' := [some (.ref 67), some (.int l1), some (.int l2), some (.int l3)]) (st' := []) (h' := h12) rfl ?_ ?_
  · refine mX_to 1 (k' := 42) (ls' := [some (.ref 67), some (.int l1), some (.int l2), some (.int l3)]) (st' := []) (h' := h12) rfl ?_
    rfl
  · refine mX_to 1 (k' := 37) (ls' := [some (.ref 67), some (.int l1), some (.int l2), some (.int l3)]) (st' := [.ref 67]) (h' := h12) rfl ?_
    refine mX_ckv (v := .ref (gR h12 67 27)) (v' := .ref 78) (k' := 38) (ls' := [some (.ref 67), some (.int l1), some (.int l2), some (.int l3)]) (st' := []) (h' := h12) (k_67 L12) (congrArg Value.ref (r_67_27 L12)) rfl ?_
    refine mX_to 2 (k' := 40) (ls' := [some (.ref 67), some (.int l1), some (.int l2), some (.int l3)]) (st' := [.int l3, .int l2, .ref 78]) (h' := h12) rfl ?_
    refine mX_cki (k' := 41) (ls' := [some (.ref 67), some (.int l1), some (.int l2), some (.int l3)]) (st' := []) (h' := (sI h12 78 (ix l2) l3)) (ckA0 (k_78 L12) (n_78 L12)) rfl fun c13 => ?_
    refine lt_geq2 (X := fun h14 : MH => mX (mE mtab d) KX11_layFars 41 [some (.ref 67), some (.int l1), some (.int l2), some (.int l3)] [] h14) (a := (sI h12 78 (ix l2) l3)) (a' := (sI h12 78 (ix l2) l3)) rfl fun h14 eh14 => ?_
    have L14 : lay h14 := eh14 ▸ layI L12 (by decide)
    refine mX_to 1 (k' := 42) (ls' := [some (.ref 67), some (.int l1), some (.int (l2 + 1)), some (.int l3)]) (st' := []) (h' := h14) rfl ?_
    rfl
theorem S_X11_layFars_42 {h : MH} (L : lay h) (d : Nat) (l1 : Int32) (l2 : Int32) (l3 : Int32) : G_X11_layFars_42 d l1 l2 l3 h = G_X11_layFars_6 d l1 l2 (l3 + 1) h := by
  refine mX_to 2 (k' := 6) (ls' := [some (.ref 67), some (.int l1), some (.int l2), some (.int (l3 + 1))]) (st' := []) (h' := h) rfl ?_
  rfl
theorem S_X11_layFars {h : MH} (L : lay h) (d : Nat) (a1 : Int32) : F_X11_layFars (d + 1) a1 h = cV (F_X11_layGood d h) (fun h1 => G_X11_layFars_6 d a1 0 0 h1) := by
  refine mE_eq (q := (yX11_layFars, cX11_layFars, 4, none, KX11_layFars)) (C := KX11_layFars) (ls := [some (.ref 67), some (.int a1), none, none]) rfl rfl rfl rfl ?_
  refine mX_to 1 (k' := 1) (ls' := [some (.ref 67), some (.int a1), none, none]) (st' := [.ref 67]) (h' := h) rfl ?_
  refine mX_ckct (m := mcl (mE mtab d 246 [.ref 67] h) 0 2 [some (.ref 67), some (.int a1), none, none] []) (k_67 L) rfl ?_
  refine mk_cVe (o := F_X11_layGood d h) ?_
  intro wh1 h1 eh1
  have L1 : lay h1 := lay_call d 246 [.ref 67] h _ h1 rfl eh1 L
  refine mX_to 4 (k' := 6) (ls' := [some (.ref 67), some (.int a1), some (.int 0), some (.int 0)]) (st' := []) (h' := h1) rfl ?_
  rfl
