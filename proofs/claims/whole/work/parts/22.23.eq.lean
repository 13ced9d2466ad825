--deps:19.lay 21.facts 22.00.names
/-! EQUATIONS over the fixed cells (written by wip/gen/sgen.py) -/
theorem S_X10_image {h : MH} (L : lay h) (d : Nat) : F_X10_image (d + 1) h = cV (F_X0_copyFromb d h) (fun h1 => some (.int (gI h1 10 5), h1)) := by
  refine mE_eq (q := (yX10_image, cX10_image, 1, (some .int), KX10_image)) (C := KX10_image) (ls := [some (.ref 8)]) rfl rfl rfl rfl ?_
  refine mX_to 1 (k' := 1) (ls' := [some (.ref 8)]) (st' := [.ref 8]) (h' := h) rfl ?_
  refine mX_ckv (v := .ref (gR h 8 1)) (v' := .ref 26) (k' := 2) (ls' := [some (.ref 8)]) (st' := []) (h' := h) (k_8 L) (congrArg Value.ref (r_8_1 L)) rfl ?_
  refine mX_to 1 (k' := 3) (ls' := [some (.ref 8)]) (st' := [.ref 8, .ref 26]) (h' := h) rfl ?_
  refine mX_ckv (v := .ref (gR h 8 0)) (v' := .ref 9) (k' := 4) (ls' := [some (.ref 8)]) (st' := [.ref 26]) (h' := h) (k_8 L) (congrArg Value.ref (r_8_0 L)) rfl ?_
  refine mX_ckct (m := mcl (mE mtab d 331 [.ref 26, .ref 9] h) 0 5 [some (.ref 8)] []) (k_26 L) rfl ?_
  refine mk_cVe (o := F_X0_copyFromb d h) ?_
  intro wh1 h1 eh1
  have L1 : lay h1 := lay_call d 331 [.ref 26, .ref 9] h _ h1 rfl eh1 L
  refine mX_to 1 (k' := 6) (ls' := [some (.ref 8)]) (st' := [.ref 8]) (h' := h1) rfl ?_
  refine mX_ckv (v := .ref (gR h1 8 0)) (v' := .ref 9) (k' := 7) (ls' := [some (.ref 8)]) (st' := []) (h' := h1) (k_8 L1) (congrArg Value.ref (r_8_0 L1)) rfl ?_
  refine mX_ckv (v := .ref (gR h1 9 0)) (v' := .ref 10) (k' := 8) (ls' := [some (.ref 8)]) (st' := []) (h' := h1) (k_9 L1) (congrArg Value.ref (r_9_0 L1)) rfl ?_
  refine mX_ckv (v := .int (gI h1 10 5)) (v' := .int (gI h1 10 5)) (k' := 9) (ls' := [some (.ref 8)]) (st' := []) (h' := h1) (k_10 L1) rfl rfl ?_
  exact mX_reti rfl
theorem S_X11_image {h : MH} (L : lay h) (d : Nat) : F_X11_image (d + 1) h = cV (F_X11_copy d 68 69 h) (fun h1 => some (.int (gI h1 68 6), h1)) := by
  refine mE_eq (q := (yX11_image, cX11_image, 1, (some .int), KX11_image)) (C := KX11_image) (ls := [some (.ref 67)]) rfl rfl rfl rfl ?_
  refine mX_to 1 (k' := 1) (ls' := [some (.ref 67)]) (st' := [.ref 67]) (h' := h) rfl ?_
  refine mX_ckv (v := .ref (gR h 67 0)) (v' := .ref 68) (k' := 2) (ls' := [some (.ref 67)]) (st' := []) (h' := h) (k_67 L) (congrArg Value.ref (r_67_0 L)) rfl ?_
  refine mX_to 1 (k' := 3) (ls' := [some (.ref 67)]) (st' := [.ref 67, .ref 68]) (h' := h) rfl ?_
  refine mX_ckv (v := .ref (gR h 67 1)) (v' := .ref 69) (k' := 4) (ls' := [some (.ref 67)]) (st' := [.ref 68]) (h' := h) (k_67 L) (congrArg Value.ref (r_67_1 L)) rfl ?_
  refine mX_cVe (o := F_X11_copy d 68 69 h) (k' := 5) (ls' := [some (.ref 67)]) (st' := []) rfl ?_
  intro wh1 h1 eh1
  have L1 : lay h1 := lay_call d 9 [.ref 68, .ref 69] h _ h1 rfl eh1 L
  refine mX_to 1 (k' := 6) (ls' := [some (.ref 67)]) (st' := [.ref 67]) (h' := h1) rfl ?_
  refine mX_ckv (v := .ref (gR h1 67 0)) (v' := .ref 68) (k' := 7) (ls' := [some (.ref 67)]) (st' := []) (h' := h1) (k_67 L1) (congrArg Value.ref (r_67_0 L1)) rfl ?_
  refine mX_to 1 (k' := 8) (ls' := [some (.ref 67)]) (st' := [.int 6, .ref 68]) (h' := h1) rfl ?_
  refine mX_ckv (v := .int (gI h1 68 (ix (6 : Int32)))) (v' := .int (gI h1 68 6)) (k' := 9) (ls' := [some (.ref 67)]) (st' := []) (h' := h1) ((ckA1 (k_68 L1) (n_68 L1)).mpr (ib_lit (n := 6) rfl (by decide) (by decide))) (congrArg (fun j => Value.int (gI h1 68 j)) (ix_lit (n := 6) rfl (by decide))) rfl ?_
  exact mX_reti rfl
theorem S_X10_back {h : MH} (L : lay h) (d : Nat) : F_X10_back (d + 1) h = cV (F_X0_copyFroma d h) (fun h1 => some (.int (gI h1 10 5), h1)) := by
  refine mE_eq (q := (yX10_back, cX10_back, 1, (some .int), KX10_back)) (C := KX10_back) (ls := [some (.ref 8)]) rfl rfl rfl rfl ?_
  refine mX_to 1 (k' := 1) (ls' := [some (.ref 8)]) (st' := [.ref 8]) (h' := h) rfl ?_
  refine mX_ckv (v := .ref (gR h 8 0)) (v' := .ref 9) (k' := 2) (ls' := [some (.ref 8)]) (st' := []) (h' := h) (k_8 L) (congrArg Value.ref (r_8_0 L)) rfl ?_
  refine mX_to 1 (k' := 3) (ls' := [some (.ref 8)]) (st' := [.ref 8, .ref 9]) (h' := h) rfl ?_
  refine mX_ckv (v := .ref (gR h 8 1)) (v' := .ref 26) (k' := 4) (ls' := [some (.ref 8)]) (st' := [.ref 9]) (h' := h) (k_8 L) (congrArg Value.ref (r_8_1 L)) rfl ?_
  refine mX_ckct (m := mcl (mE mtab d 331 [.ref 9, .ref 26] h) 0 5 [some (.ref 8)] []) (k_9 L) rfl ?_
  refine mk_cVe (o := F_X0_copyFroma d h) ?_
  intro wh1 h1 eh1
  have L1 : lay h1 := lay_call d 331 [.ref 9, .ref 26] h _ h1 rfl eh1 L
  refine mX_to 1 (k' := 6) (ls' := [some (.ref 8)]) (st' := [.ref 8]) (h' := h1) rfl ?_
  refine mX_ckv (v := .ref (gR h1 8 0)) (v' := .ref 9) (k' := 7) (ls' := [some (.ref 8)]) (st' := []) (h' := h1) (k_8 L1) (congrArg Value.ref (r_8_0 L1)) rfl ?_
  refine mX_ckv (v := .ref (gR h1 9 0)) (v' := .ref 10) (k' := 8) (ls' := [some (.ref 8)]) (st' := []) (h' := h1) (k_9 L1) (congrArg Value.ref (r_9_0 L1)) rfl ?_
  refine mX_ckv (v := .int (gI h1 10 5)) (v' := .int (gI h1 10 5)) (k' := 9) (ls' := [some (.ref 8)]) (st' := []) (h' := h1) (k_10 L1) rfl rfl ?_
  exact mX_reti rfl
theorem S_X11_back {h : MH} (L : lay h) (d : Nat) : F_X11_back (d + 1) h = cV (F_X11_copy d 69 68 h) (fun h1 => some (.int (gI h1 68 6), h1)) := by
  refine mE_eq (q := (yX11_back, cX11_back, 1, (some .int), KX11_back)) (C := KX11_back) (ls := [some (.ref 67)]) rfl rfl rfl rfl ?_
  refine mX_to 1 (k' := 1) (ls' := [some (.ref 67)]) (st' := [.ref 67]) (h' := h) rfl ?_
  refine mX_ckv (v := .ref (gR h 67 1)) (v' := .ref 69) (k' := 2) (ls' := [some (.ref 67)]) (st' := []) (h' := h) (k_67 L) (congrArg Value.ref (r_67_1 L)) rfl ?_
  refine mX_to 1 (k' := 3) (ls' := [some (.ref 67)]) (st' := [.ref 67, .ref 69]) (h' := h) rfl ?_
  refine mX_ckv (v := .ref (gR h 67 0)) (v' := .ref 68) (k' := 4) (ls' := [some (.ref 67)]) (st' := [.ref 69]) (h' := h) (k_67 L) (congrArg Value.ref (r_67_0 L)) rfl ?_
  refine mX_cVe (o := F_X11_copy d 69 68 h) (k' := 5) (ls' := [some (.ref 67)]) (st' := []) rfl ?_
  intro wh1 h1 eh1
  have L1 : lay h1 := lay_call d 9 [.ref 69, .ref 68] h _ h1 rfl eh1 L
  refine mX_to 1 (k' := 6) (ls' := [some (.ref 67)]) (st' := [.ref 67]) (h' := h1) rfl ?_
  refine mX_ckv (v := .ref (gR h1 67 0)) (v' := .ref 68) (k' := 7) (ls' := [some (.ref 67)]) (st' := []) (h' := h1) (k_67 L1) (congrArg Value.ref (r_67_0 L1)) rfl ?_
  refine mX_to 1 (k' := 8) (ls' := [some (.ref 67)]) (st' := [.int 6, .ref 68]) (h' := h1) rfl ?_
  refine mX_ckv (v := .int (gI h1 68 (ix (6 : Int32)))) (v' := .int (gI h1 68 6)) (k' := 9) (ls' := [some (.ref 67)]) (st' := []) (h' := h1) ((ckA1 (k_68 L1) (n_68 L1)).mpr (ib_lit (n := 6) rfl (by decide) (by decide))) (congrArg (fun j => Value.int (gI h1 68 j)) (ix_lit (n := 6) rfl (by decide))) rfl ?_
  exact mX_reti rfl
theorem S_X10_about {h : MH} (L : lay h) (d : Nat) (a1 : Int32) : F_X10_about (d + 1) a1 h = (if a1 = 0 then some (.int (gI h 10 0), h) else (if a1 = 1 then some (.int (gI h 19 3), h) else (if a1 = 2 then some (.int (gI h 9 4), h) else (if a1 = 3 then some (.int (gI h 9 5), h) else (if a1 = 4 then some (.int (gI h 17 2), h) else (if a1 = 5 then some (.int (gI h 9 8), h) else (if a1 = 6 then some (.int (gI h 50 1), h) else some (.int (-2), h)))))))) := by
  refine mE_eq (q := (yX10_about, cX10_about, 2, (some .int), KX10_about)) (C := KX10_about) (ls := [some (.ref 8), some (.int a1)]) rfl rfl rfl rfl ?_
  refine mX_to 1 (k' := 1) (ls' := [some (.ref 8), some (.int a1)]) (st' := [.int a1]) (h' := h) rfl ?_
  refine mX_sw (x := a1) (t := 33) (sw := [(0, 2), (1, 7), (2, 12), (3, 16), (4, 20), (5, 25), (6, 29)]) (ls' := [some (.ref 8), some (.int a1)]) (st' := []) (h' := h) rfl ?_
  refine msw_cons ?_ ?_
  · refine mX_to 1 (k' := 3) (ls' := [some (.ref 8), some (.int a1)]) (st' := [.ref 8]) (h' := h) rfl ?_
    refine mX_ckv (v := .ref (gR h 8 0)) (v' := .ref 9) (k' := 4) (ls' := [some (.ref 8), some (.int a1)]) (st' := []) (h' := h) (k_8 L) (congrArg Value.ref (r_8_0 L)) rfl ?_
    refine mX_ckv (v := .ref (gR h 9 0)) (v' := .ref 10) (k' := 5) (ls' := [some (.ref 8), some (.int a1)]) (st' := []) (h' := h) (k_9 L) (congrArg Value.ref (r_9_0 L)) rfl ?_
    refine mX_ckv (v := .int (gI h 10 0)) (v' := .int (gI h 10 0)) (k' := 6) (ls' := [some (.ref 8), some (.int a1)]) (st' := []) (h' := h) (k_10 L) rfl rfl ?_
    exact mX_reti rfl
  refine msw_cons ?_ ?_
  · refine mX_to 1 (k' := 8) (ls' := [some (.ref 8), some (.int a1)]) (st' := [.ref 8]) (h' := h) rfl ?_
    refine mX_ckv (v := .ref (gR h 8 0)) (v' := .ref 9) (k' := 9) (ls' := [some (.ref 8), some (.int a1)]) (st' := []) (h' := h) (k_8 L) (congrArg Value.ref (r_8_0 L)) rfl ?_
    refine mX_ckv (v := .ref (gR h 9 2)) (v' := .ref 19) (k' := 10) (ls' := [some (.ref 8), some (.int a1)]) (st' := []) (h' := h) (k_9 L) (congrArg Value.ref (r_9_2 L)) rfl ?_
    refine mX_ckv (v := .int (gI h 19 3)) (v' := .int (gI h 19 3)) (k' := 11) (ls' := [some (.ref 8), some (.int a1)]) (st' := []) (h' := h) (k_19 L) rfl rfl ?_
    exact mX_reti rfl
  refine msw_cons ?_ ?_
  · refine mX_to 1 (k' := 13) (ls' := [some (.ref 8), some (.int a1)]) (st' := [.ref 8]) (h' := h) rfl ?_
    refine mX_ckv (v := .ref (gR h 8 0)) (v' := .ref 9) (k' := 14) (ls' := [some (.ref 8), some (.int a1)]) (st' := []) (h' := h) (k_8 L) (congrArg Value.ref (r_8_0 L)) rfl ?_
    refine mX_ckv (v := .int (gI h 9 4)) (v' := .int (gI h 9 4)) (k' := 15) (ls' := [some (.ref 8), some (.int a1)]) (st' := []) (h' := h) (k_9 L) rfl rfl ?_
    exact mX_reti rfl
  refine msw_cons ?_ ?_
  · refine mX_to 1 (k' := 17) (ls' := [some (.ref 8), some (.int a1)]) (st' := [.ref 8]) (h' := h) rfl ?_
    refine mX_ckv (v := .ref (gR h 8 0)) (v' := .ref 9) (k' := 18) (ls' := [some (.ref 8), some (.int a1)]) (st' := []) (h' := h) (k_8 L) (congrArg Value.ref (r_8_0 L)) rfl ?_
    refine mX_ckv (v := .int (gI h 9 5)) (v' := .int (gI h 9 5)) (k' := 19) (ls' := [some (.ref 8), some (.int a1)]) (st' := []) (h' := h) (k_9 L) rfl rfl ?_
    exact mX_reti rfl
  refine msw_cons ?_ ?_
  · refine mX_to 1 (k' := 21) (ls' := [some (.ref 8), some (.int a1)]) (st' := [.ref 8]) (h' := h) rfl ?_
    refine mX_ckv (v := .ref (gR h 8 0)) (v' := .ref 9) (k' := 22) (ls' := [some (.ref 8), some (.int a1)]) (st' := []) (h' := h) (k_8 L) (congrArg Value.ref (r_8_0 L)) rfl ?_
    refine mX_ckv (v := .ref (gR h 9 1)) (v' := .ref 17) (k' := 23) (ls' := [some (.ref 8), some (.int a1)]) (st' := []) (h' := h) (k_9 L) (congrArg Value.ref (r_9_1 L)) rfl ?_
    refine mX_ckv (v := .int (gI h 17 2)) (v' := .int (gI h 17 2)) (k' := 24) (ls' := [some (.ref 8), some (.int a1)]) (st' := []) (h' := h) (k_17 L) rfl rfl ?_
    exact mX_reti rfl
  refine msw_cons ?_ ?_
  · refine mX_to 1 (k' := 26) (ls' := [some (.ref 8), some (.int a1)]) (st' := [.ref 8]) (h' := h) rfl ?_
    refine mX_ckv (v := .ref (gR h 8 0)) (v' := .ref 9) (k' := 27) (ls' := [some (.ref 8), some (.int a1)]) (st' := []) (h' := h) (k_8 L) (congrArg Value.ref (r_8_0 L)) rfl ?_
    refine mX_ckv (v := .int (gI h 9 8)) (v' := .int (gI h 9 8)) (k' := 28) (ls' := [some (.ref 8), some (.int a1)]) (st' := []) (h' := h) (k_9 L) rfl rfl ?_
    exact mX_reti rfl
  refine msw_cons ?_ ?_
  · refine mX_to 1 (k' := 30) (ls' := [some (.ref 8), some (.int a1)]) (st' := [.ref 8]) (h' := h) rfl ?_
    refine mX_ckv (v := .ref (gR h 8 3)) (v' := .ref 50) (k' := 31) (ls' := [some (.ref 8), some (.int a1)]) (st' := []) (h' := h) (k_8 L) (congrArg Value.ref (r_8_3 L)) rfl ?_
    refine mX_ckv (v := .int (gI h 50 1)) (v' := .int (gI h 50 1)) (k' := 32) (ls' := [some (.ref 8), some (.int a1)]) (st' := []) (h' := h) (k_50 L) rfl rfl ?_
    exact mX_reti rfl
  refine msw_nil ?_
  refine mX_to 1 (k' := 34) (ls' := [some (.ref 8), some (.int a1)]) (st' := [.int (-2)]) (h' := h) rfl ?_
  exact mX_reti rfl
theorem S_X11_about {h : MH} (L : lay h) (d : Nat) (a1 : Int32) : F_X11_about (d + 1) a1 h = cI (F_X11_isIn d a1 0 5 h) (fun x2 h1 => (if x2 = 0 then (if a1 = 6 then some (.int (gI h1 67 4), h1) else some (.int (-2), h1)) else ck (ib a1 1498) (some (.int (gI h1 68 (ix a1)), h1)))) := by
  refine mE_eq (q := (yX11_about, cX11_about, 2, (some .int), KX11_about)) (C := KX11_about) (ls := [some (.ref 67), some (.int a1)]) rfl rfl rfl rfl ?_
  refine mX_to 3 (k' := 3) (ls' := [some (.ref 67), some (.int a1)]) (st' := [.int 5, .int 0, .int a1]) (h' := h) rfl ?_
  refine mX_cIe (o := F_X11_isIn d a1 0 5 h) (k' := 4) (ls' := [some (.ref 67), some (.int a1)]) (st' := []) rfl ?_
  intro x2 h1 eh1
  have L1 : lay h1 := lay_call d 14 [.int a1, .int 0, .int 5] h _ h1 rfl eh1 L
  refine mX_br (t := 10) (f := 5) (ls' := [some (.ref 67), some (.int a1)]) (st' := []) (h' := h1) rfl ?_ ?_
  · refine mX_to 2 (k' := 12) (ls' := [some (.ref 67), some (.int a1)]) (st' := [.int 6, .int a1]) (h' := h1) rfl ?_
    refine mX_br (t := 13) (f := 16) (ls' := [some (.ref 67), some (.int a1)]) (st' := []) (h' := h1) rfl ?_ ?_
    · refine mX_to 1 (k' := 14) (ls' := [some (.ref 67), some (.int a1)]) (st' := [.ref 67]) (h' := h1) rfl ?_
      refine mX_ckv (v := .int (gI h1 67 4)) (v' := .int (gI h1 67 4)) (k' := 15) (ls' := [some (.ref 67), some (.int a1)]) (st' := []) (h' := h1) (k_67 L1) rfl rfl ?_
      refine mX_to 1 (k' := 17) (ls' := [some (.ref 67), some (.int a1)]) (st' := [.int (gI h1 67 4)]) (h' := h1) rfl ?_
      exact mX_reti rfl
    · refine mX_to 1 (k' := 17) (ls' := [some (.ref 67), some (.int a1)]) (st' := [.int (-2)]) (h' := h1) rfl ?_
      exact mX_reti rfl
  · refine mX_to 1 (k' := 6) (ls' := [some (.ref 67), some (.int a1)]) (st' := [.ref 67]) (h' := h1) rfl ?_
    refine mX_ckv (v := .ref (gR h1 67 0)) (v' := .ref 68) (k' := 7) (ls' := [some (.ref 67), some (.int a1)]) (st' := []) (h' := h1) (k_67 L1) (congrArg Value.ref (r_67_0 L1)) rfl ?_
    refine mX_to 1 (k' := 8) (ls' := [some (.ref 67), some (.int a1)]) (st' := [.int a1, .ref 68]) (h' := h1) rfl ?_
    refine mX_ckw (v := .int (gI h1 68 (ix a1))) (v' := .int (gI h1 68 (ix a1))) (k' := 9) (ls' := [some (.ref 67), some (.int a1)]) (st' := []) (h' := h1) (ckA1 (k_68 L1) (n_68 L1)) rfl rfl fun c3 => ?_
    refine mX_to 1 (k' := 17) (ls' := [some (.ref 67), some (.int a1)]) (st' := [.int (gI h1 68 (ix a1))]) (h' := h1) rfl ?_
    exact mX_reti rfl
