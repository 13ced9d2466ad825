--deps:19.lay 21.facts 22.00.names
/-! EQUATIONS over the fixed cells (written by wip/gen/sgen.py) -/
theorem S_X11_of {h : MH} (L : lay h) (d : Nat) (a1 : Int32) (a2 : Int32) : F_X11_of (d + 1) a1 a2 h = cI (F_X11_isPerson d a1 h) (fun x2 h1 => (if x2 = 0 then some (.int (-2), h1) else (if a2 = 0 then ck (ib (22 + a1) 1498) (some (.int (gI h1 68 (ix (22 + a1))), h1)) else (if a2 = 1 then ck (ib (9 + a1) 1498) (some (.int (gI h1 68 (ix (9 + a1))), h1)) else (if a2 = 2 then ck (ib (30 + a1) 1498) (some (.int (gI h1 68 (ix (30 + a1))), h1)) else (if a2 = 3 then cI (F_X11_slidesOf d (gI h1 68 3) a1 h1) (fun x7 h6 => some (.int x7, h6)) else some (.int (-2), h1))))))) := by
  refine mE_eq (q := (yX11_of, cX11_of, 3, (some .int), KX11_of)) (C := KX11_of) (ls := [some (.ref 67), some (.int a1), some (.int a2)]) rfl rfl rfl rfl ?_
  refine mX_to 2 (k' := 2) (ls' := [some (.ref 67), some (.int a1), some (.int a2)]) (st' := [.int a1, .ref 67]) (h' := h) rfl ?_
  refine mX_ckct (m := mcl (mE mtab d 20 [.ref 67, .int a1] h) 1 3 [some (.ref 67), some (.int a1), some (.int a2)] []) (k_67 L) rfl ?_
  refine mk_cIe (o := F_X11_isPerson d a1 h) ?_
  intro x2 h1 eh1
  have L1 : lay h1 := lay_call d 20 [.ref 67, .int a1] h _ h1 rfl eh1 L
  refine mX_br (t := 4) (f := 6) (ls' := [some (.ref 67), some (.int a1), some (.int a2)]) (st' := []) (h' := h1) rfl ?_ ?_
  · refine mX_to 1 (k' := 5) (ls' := [some (.ref 67), some (.int a1), some (.int a2)]) (st' := [.int (-2)]) (h' := h1) rfl ?_
    exact mX_reti rfl
  · refine mX_to 1 (k' := 7) (ls' := [some (.ref 67), some (.int a1), some (.int a2)]) (st' := [.int a2]) (h' := h1) rfl ?_
    refine mX_br (t := 8) (f := 15) (ls' := [some (.ref 67), some (.int a1), some (.int a2)]) (st' := []) (h' := h1) rfl ?_ ?_
    · refine mX_to 1 (k' := 9) (ls' := [some (.ref 67), some (.int a1), some (.int a2)]) (st' := [.ref 67]) (h' := h1) rfl ?_
      refine mX_ckv (v := .ref (gR h1 67 0)) (v' := .ref 68) (k' := 10) (ls' := [some (.ref 67), some (.int a1), some (.int a2)]) (st' := []) (h' := h1) (k_67 L1) (congrArg Value.ref (r_67_0 L1)) rfl ?_
      refine mX_to 3 (k' := 13) (ls' := [some (.ref 67), some (.int a1), some (.int a2)]) (st' := [.int (22 + a1), .ref 68]) (h' := h1) rfl ?_
      refine mX_ckw (v := .int (gI h1 68 (ix (22 + a1)))) (v' := .int (gI h1 68 (ix (22 + a1)))) (k' := 14) (ls' := [some (.ref 67), some (.int a1), some (.int a2)]) (st' := []) (h' := h1) (ckA1 (k_68 L1) (n_68 L1)) rfl rfl fun c3 => ?_
      refine mX_to 1 (k' := 47) (ls' := [some (.ref 67), some (.int a1), some (.int a2)]) (st' := [.int (gI h1 68 (ix (22 + a1)))]) (h' := h1) rfl ?_
      exact mX_reti rfl
    · refine mX_to 2 (k' := 17) (ls' := [some (.ref 67), some (.int a1), some (.int a2)]) (st' := [.int 1, .int a2]) (h' := h1) rfl ?_
      refine mX_br (t := 18) (f := 25) (ls' := [some (.ref 67), some (.int a1), some (.int a2)]) (st' := []) (h' := h1) rfl ?_ ?_
      · refine mX_to 1 (k' := 19) (ls' := [some (.ref 67), some (.int a1), some (.int a2)]) (st' := [.ref 67]) (h' := h1) rfl ?_
        refine mX_ckv (v := .ref (gR h1 67 0)) (v' := .ref 68) (k' := 20) (ls' := [some (.ref 67), some (.int a1), some (.int a2)]) (st' := []) (h' := h1) (k_67 L1) (congrArg Value.ref (r_67_0 L1)) rfl ?_
        refine mX_to 3 (k' := 23) (ls' := [some (.ref 67), some (.int a1), some (.int a2)]) (st' := [.int (9 + a1), .ref 68]) (h' := h1) rfl ?_
        refine mX_ckw (v := .int (gI h1 68 (ix (9 + a1)))) (v' := .int (gI h1 68 (ix (9 + a1)))) (k' := 24) (ls' := [some (.ref 67), some (.int a1), some (.int a2)]) (st' := []) (h' := h1) (ckA1 (k_68 L1) (n_68 L1)) rfl rfl fun c4 => ?_
        refine mX_to 1 (k' := 47) (ls' := [some (.ref 67), some (.int a1), some (.int a2)]) (st' := [.int (gI h1 68 (ix (9 + a1)))]) (h' := h1) rfl ?_
        exact mX_reti rfl
      · refine mX_to 2 (k' := 27) (ls' := [some (.ref 67), some (.int a1), some (.int a2)]) (st' := [.int 2, .int a2]) (h' := h1) rfl ?_
        refine mX_br (t := 28) (f := 35) (ls' := [some (.ref 67), some (.int a1), some (.int a2)]) (st' := []) (h' := h1) rfl ?_ ?_
        · refine mX_to 1 (k' := 29) (ls' := [some (.ref 67), some (.int a1), some (.int a2)]) (st' := [.ref 67]) (h' := h1) rfl ?_
          refine mX_ckv (v := .ref (gR h1 67 0)) (v' := .ref 68) (k' := 30) (ls' := [some (.ref 67), some (.int a1), some (.int a2)]) (st' := []) (h' := h1) (k_67 L1) (congrArg Value.ref (r_67_0 L1)) rfl ?_
          refine mX_to 3 (k' := 33) (ls' := [some (.ref 67), some (.int a1), some (.int a2)]) (st' := [.int (30 + a1), .ref 68]) (h' := h1) rfl ?_
          refine mX_ckw (v := .int (gI h1 68 (ix (30 + a1)))) (v' := .int (gI h1 68 (ix (30 + a1)))) (k' := 34) (ls' := [some (.ref 67), some (.int a1), some (.int a2)]) (st' := []) (h' := h1) (ckA1 (k_68 L1) (n_68 L1)) rfl rfl fun c5 => ?_
          refine mX_to 1 (k' := 47) (ls' := [some (.ref 67), some (.int a1), some (.int a2)]) (st' := [.int (gI h1 68 (ix (30 + a1)))]) (h' := h1) rfl ?_
          exact mX_reti rfl
        · refine mX_to 2 (k' := 37) (ls' := [some (.ref 67), some (.int a1), some (.int a2)]) (st' := [.int 3, .int a2]) (h' := h1) rfl ?_
          refine mX_br (t := 38) (f := 46) (ls' := [some (.ref 67), some (.int a1), some (.int a2)]) (st' := []) (h' := h1) rfl ?_ ?_
          · refine mX_to 2 (k' := 40) (ls' := [some (.ref 67), some (.int a1), some (.int a2)]) (st' := [.ref 67, .ref 67]) (h' := h1) rfl ?_
            refine mX_ckv (v := .ref (gR h1 67 0)) (v' := .ref 68) (k' := 41) (ls' := [some (.ref 67), some (.int a1), some (.int a2)]) (st' := [.ref 67]) (h' := h1) (k_67 L1) (congrArg Value.ref (r_67_0 L1)) rfl ?_
            refine mX_to 1 (k' := 42) (ls' := [some (.ref 67), some (.int a1), some (.int a2)]) (st' := [.int 3, .ref 68, .ref 67]) (h' := h1) rfl ?_
            refine mX_ckv (v := .int (gI h1 68 (ix (3 : Int32)))) (v' := .int (gI h1 68 3)) (k' := 43) (ls' := [some (.ref 67), some (.int a1), some (.int a2)]) (st' := [.ref 67]) (h' := h1) ((ckA1 (k_68 L1) (n_68 L1)).mpr (ib_lit (n := 3) rfl (by decide) (by decide))) (congrArg (fun j => Value.int (gI h1 68 j)) (ix_lit (n := 3) rfl (by decide))) rfl ?_
            refine mX_to 1 (k' := 44) (ls' := [some (.ref 67), some (.int a1), some (.int a2)]) (st' := [.int a1, .int (gI h1 68 3), .ref 67]) (h' := h1) rfl ?_
            refine mX_ckct (m := mcl (mE mtab d 196 [.ref 67, .int (gI h1 68 3), .int a1] h1) 1 45 [some (.ref 67), some (.int a1), some (.int a2)] []) (k_67 L1) rfl ?_
            refine mk_cIe (o := F_X11_slidesOf d (gI h1 68 3) a1 h1) ?_
            intro x7 h6 eh6
            have L6 : lay h6 := lay_call d 196 [.ref 67, .int (gI h1 68 3), .int a1] h1 _ h6 rfl eh6 L1
            refine mX_to 1 (k' := 47) (ls' := [some (.ref 67), some (.int a1), some (.int a2)]) (st' := [.int x7]) (h' := h6) rfl ?_
            exact mX_reti rfl
          · refine mX_to 1 (k' := 47) (ls' := [some (.ref 67), some (.int a1), some (.int a2)]) (st' := [.int (-2)]) (h' := h1) rfl ?_
            exact mX_reti rfl
theorem S_X9_peopleAt_4 {h : MH} (L : lay h) (d : Nat) (q : Nat) (T : tAt q) (l1 : Int32) (l2 : Int32) (l3 : Int32) : G_X9_peopleAt_4 d q l1 l2 l3 h = (if l3 < (gI h q 0) then ck (ib l3 4) ((if (gI h (q + 2) (ix l3)) = l1 then lt_ (l2 ||| (1 <<< (l3 &&& 31))) fun v1 => G_X9_peopleAt_20 d q l1 v1 l3 h else G_X9_peopleAt_20 d q l1 l2 l3 h)) else some (.int l2, h)) := by
  refine mX_to 2 (k' := 6) (ls' := [some (.ref q), some (.int l1), some (.int l2), some (.int l3)]) (st' := [.ref q, .int l3]) (h' := h) rfl ?_
  refine mX_ckv (v := .int (gI h q 0)) (v' := .int (gI h q 0)) (k' := 7) (ls' := [some (.ref q), some (.int l1), some (.int l2), some (.int l3)]) (st' := [.int l3]) (h' := h) (kT0 L T) rfl rfl ?_
  refine mX_br (t := 8) (f := 22) (ls' := [some (.ref q), some (.int l1), some (.int l2), some (.int l3)]) (st' := []) (h' := h) rfl ?_ ?_
  · refine mX_to 1 (k' := 9) (ls' := [some (.ref q), some (.int l1), some (.int l2), some (.int l3)]) (st' := [.ref q]) (h' := h) rfl ?_
    refine mX_ckv (v := .ref (gR h q 2)) (v' := .ref (q + 2)) (k' := 10) (ls' := [some (.ref q), some (.int l1), some (.int l2), some (.int l3)]) (st' := []) (h' := h) (kT0 L T) (congrArg Value.ref (rT2 L T)) rfl ?_
    refine mX_to 1 (k' := 11) (ls' := [some (.ref q), some (.int l1), some (.int l2), some (.int l3)]) (st' := [.int l3, .ref (q + 2)]) (h' := h) rfl ?_
    refine mX_ckw (v := .int (gI h (q + 2) (ix l3))) (v' := .int (gI h (q + 2) (ix l3))) (k' := 12) (ls' := [some (.ref q), some (.int l1), some (.int l2), some (.int l3)]) (st' := []) (h' := h) (ckA1 (kT2 L T) (nT2 L T)) rfl rfl fun c2 => ?_
    refine mX_to 1 (k' := 13) (ls' := [some (.ref q), some (.int l1), some (.int l2), some (.int l3)]) (st' := [.int l1, .int (gI h (q + 2) (ix l3))]) (h' := h) rfl ?_
    refine mX_br (t := 14) (f := 20) (ls' := [some (.ref q), some (.int l1), some (.int l2), some (.int l3)]) (st' := []) (h' := h) rfl ?_ ?_
    · refine mX_to 5 (k' := 19) (ls' := [some (.ref q), some (.int l1), some (.int l2), some (.int l3)]) (st' := [.int (l2 ||| (1 <<< (l3 &&& 31)))]) (h' := h) rfl ?_
      refine lt_gen (X := fun v1 : Int32 => mX (mE mtab d) KX9_peopleAt 19 [some (.ref q), some (.int l1), some (.int l2), some (.int l3)] [.int v1] h) fun v1 => ?_
      refine mX_to 1 (k' := 20) (ls' := [some (.ref q), some (.int l1), some (.int v1), some (.int l3)]) (st' := []) (h' := h) rfl ?_
      rfl
    · rfl
  · refine mX_to 1 (k' := 23) (ls' := [some (.ref q), some (.int l1), some (.int l2), some (.int l3)]) (st' := [.int l2]) (h' := h) rfl ?_
    exact mX_reti rfl
theorem S_X9_peopleAt_20 {h : MH} (L : lay h) (d : Nat) (q : Nat) (T : tAt q) (l1 : Int32) (l2 : Int32) (l3 : Int32) : G_X9_peopleAt_20 d q l1 l2 l3 h = G_X9_peopleAt_4 d q l1 l2 (l3 + 1) h := by
  refine mX_to 2 (k' := 4) (ls' := [some (.ref q), some (.int l1), some (.int l2), some (.int (l3 + 1))]) (st' := []) (h' := h) rfl ?_
  rfl
theorem S_X9_peopleAt {h : MH} (L : lay h) (d : Nat) (q : Nat) (a1 : Int32) (T : tAt q) : F_X9_peopleAt (d + 1) q a1 h = G_X9_peopleAt_4 d q a1 0 0 h := by
  refine mE_eq (q := (yX9_peopleAt, cX9_peopleAt, 4, (some .int), KX9_peopleAt)) (C := KX9_peopleAt) (ls := [some (.ref q), some (.int a1), none, none]) rfl rfl rfl rfl ?_
  refine mX_to 4 (k' := 4) (ls' := [some (.ref q), some (.int a1), some (.int 0), some (.int 0)]) (st' := []) (h' := h) rfl ?_
  rfl
theorem S_X10_place {h : MH} (L : lay h) (d : Nat) (a1 : Int32) (a2 : Int32) : F_X10_place (d + 1) a1 a2 h = cI (F_X10_within d a1 0 8 h) (fun x2 h1 => (if x2 = 0 then some (.int (-1), h1) else (if a2 = 0 then ck (ib a1 9) (some (.int (gI h1 14 (ix a1)), h1)) else (if a2 = 1 then cI (F_X9_peopleAt d 10 a1 h1) (fun x5 h4 => some (.int x5, h4)) else (if a2 = 2 then cI (F_X9_weightAt d 10 a1 h1) (fun x7 h6 => some (.int x7, h6)) else some (.int (-1), h1)))))) := by
  refine mE_eq (q := (yX10_place, cX10_place, 3, (some .int), KX10_place)) (C := KX10_place) (ls := [some (.ref 8), some (.int a1), some (.int a2)]) rfl rfl rfl rfl ?_
  refine mX_to 3 (k' := 3) (ls' := [some (.ref 8), some (.int a1), some (.int a2)]) (st' := [.int 8, .int 0, .int a1]) (h' := h) rfl ?_
  refine mX_cIe (o := F_X10_within d a1 0 8 h) (k' := 4) (ls' := [some (.ref 8), some (.int a1), some (.int a2)]) (st' := []) rfl ?_
  intro x2 h1 eh1
  have L1 : lay h1 := lay_call d 11 [.int a1, .int 0, .int 8] h _ h1 rfl eh1 L
  refine mX_br (t := 5) (f := 7) (ls' := [some (.ref 8), some (.int a1), some (.int a2)]) (st' := []) (h' := h1) rfl ?_ ?_
  · refine mX_to 1 (k' := 6) (ls' := [some (.ref 8), some (.int a1), some (.int a2)]) (st' := [.int (-1)]) (h' := h1) rfl ?_
    exact mX_reti rfl
  · refine mX_to 1 (k' := 8) (ls' := [some (.ref 8), some (.int a1), some (.int a2)]) (st' := [.int a2]) (h' := h1) rfl ?_
    refine mX_sw (x := a2) (t := 28) (sw := [(0, 9), (1, 16), (2, 22)]) (ls' := [some (.ref 8), some (.int a1), some (.int a2)]) (st' := []) (h' := h1) rfl ?_
    refine msw_cons ?_ ?_
    · refine mX_to 1 (k' := 10) (ls' := [some (.ref 8), some (.int a1), some (.int a2)]) (st' := [.ref 8]) (h' := h1) rfl ?_
      refine mX_ckv (v := .ref (gR h1 8 0)) (v' := .ref 9) (k' := 11) (ls' := [some (.ref 8), some (.int a1), some (.int a2)]) (st' := []) (h' := h1) (k_8 L1) (congrArg Value.ref (r_8_0 L1)) rfl ?_
      refine mX_ckv (v := .ref (gR h1 9 0)) (v' := .ref 10) (k' := 12) (ls' := [some (.ref 8), some (.int a1), some (.int a2)]) (st' := []) (h' := h1) (k_9 L1) (congrArg Value.ref (r_9_0 L1)) rfl ?_
      refine mX_ckv (v := .ref (gR h1 10 4)) (v' := .ref 14) (k' := 13) (ls' := [some (.ref 8), some (.int a1), some (.int a2)]) (st' := []) (h' := h1) (k_10 L1) (congrArg Value.ref (r_10_4 L1)) rfl ?_
      refine mX_to 1 (k' := 14) (ls' := [some (.ref 8), some (.int a1), some (.int a2)]) (st' := [.int a1, .ref 14]) (h' := h1) rfl ?_
      refine mX_ckw (v := .int (gI h1 14 (ix a1))) (v' := .int (gI h1 14 (ix a1))) (k' := 15) (ls' := [some (.ref 8), some (.int a1), some (.int a2)]) (st' := []) (h' := h1) (ckA1 (k_14 L1) (n_14 L1)) rfl rfl fun c3 => ?_
      exact mX_reti rfl
    refine msw_cons ?_ ?_
    · refine mX_to 1 (k' := 17) (ls' := [some (.ref 8), some (.int a1), some (.int a2)]) (st' := [.ref 8]) (h' := h1) rfl ?_
      refine mX_ckv (v := .ref (gR h1 8 0)) (v' := .ref 9) (k' := 18) (ls' := [some (.ref 8), some (.int a1), some (.int a2)]) (st' := []) (h' := h1) (k_8 L1) (congrArg Value.ref (r_8_0 L1)) rfl ?_
      refine mX_ckv (v := .ref (gR h1 9 0)) (v' := .ref 10) (k' := 19) (ls' := [some (.ref 8), some (.int a1), some (.int a2)]) (st' := []) (h' := h1) (k_9 L1) (congrArg Value.ref (r_9_0 L1)) rfl ?_
      refine mX_to 1 (k' := 20) (ls' := [some (.ref 8), some (.int a1), some (.int a2)]) (st' := [.int a1, .ref 10]) (h' := h1) rfl ?_
      refine mX_ckct (m := mcl (mE mtab d 215 [.ref 10, .int a1] h1) 1 21 [some (.ref 8), some (.int a1), some (.int a2)] []) (k_10 L1) rfl ?_
      refine mk_cIe (o := F_X9_peopleAt d 10 a1 h1) ?_
      intro x5 h4 eh4
      have L4 : lay h4 := lay_call d 215 [.ref 10, .int a1] h1 _ h4 rfl eh4 L1
      exact mX_reti rfl
    refine msw_cons ?_ ?_
    · refine mX_to 1 (k' := 23) (ls' := [some (.ref 8), some (.int a1), some (.int a2)]) (st' := [.ref 8]) (h' := h1) rfl ?_
      refine mX_ckv (v := .ref (gR h1 8 0)) (v' := .ref 9) (k' := 24) (ls' := [some (.ref 8), some (.int a1), some (.int a2)]) (st' := []) (h' := h1) (k_8 L1) (congrArg Value.ref (r_8_0 L1)) rfl ?_
      refine mX_ckv (v := .ref (gR h1 9 0)) (v' := .ref 10) (k' := 25) (ls' := [some (.ref 8), some (.int a1), some (.int a2)]) (st' := []) (h' := h1) (k_9 L1) (congrArg Value.ref (r_9_0 L1)) rfl ?_
      refine mX_to 1 (k' := 26) (ls' := [some (.ref 8), some (.int a1), some (.int a2)]) (st' := [.int a1, .ref 10]) (h' := h1) rfl ?_
      refine mX_ckct (m := mcl (mE mtab d 141 [.ref 10, .int a1] h1) 1 27 [some (.ref 8), some (.int a1), some (.int a2)] []) (k_10 L1) rfl ?_
      refine mk_cIe (o := F_X9_weightAt d 10 a1 h1) ?_
      intro x7 h6 eh6
      have L6 : lay h6 := lay_call d 141 [.ref 10, .int a1] h1 _ h6 rfl eh6 L1
      exact mX_reti rfl
    refine msw_nil ?_
    refine mX_to 1 (k' := 29) (ls' := [some (.ref 8), some (.int a1), some (.int a2)]) (st' := [.int (-1)]) (h' := h1) rfl ?_
    exact mX_reti rfl
theorem S_X11_place {h : MH} (L : lay h) (d : Nat) (a1 : Int32) (a2 : Int32) : F_X11_place (d + 1) a1 a2 h = cI (F_X11_isPlace d a1 h) (fun x2 h1 => (if x2 = 0 then some (.int (-1), h1) else (if a2 = 0 then ck (ib (13 + a1) 1498) (some (.int (gI h1 68 (ix (13 + a1))), h1)) else (if a2 = 1 then cI (F_X11_peopleIn d a1 h1) (fun x5 h4 => some (.int x5, h4)) else (if a2 = 2 then cI (F_X11_loadOf d a1 h1) (fun x7 h6 => some (.int x7, h6)) else some (.int (-1), h1)))))) := by
  refine mE_eq (q := (yX11_place, cX11_place, 3, (some .int), KX11_place)) (C := KX11_place) (ls := [some (.ref 67), some (.int a1), some (.int a2)]) rfl rfl rfl rfl ?_
  refine mX_to 1 (k' := 1) (ls' := [some (.ref 67), some (.int a1), some (.int a2)]) (st' := [.int a1]) (h' := h) rfl ?_
  refine mX_cIe (o := F_X11_isPlace d a1 h) (k' := 2) (ls' := [some (.ref 67), some (.int a1), some (.int a2)]) (st' := []) rfl ?_
  intro x2 h1 eh1
  have L1 : lay h1 := lay_call d 15 [.int a1] h _ h1 rfl eh1 L
  refine mX_br (t := 3) (f := 5) (ls' := [some (.ref 67), some (.int a1), some (.int a2)]) (st' := []) (h' := h1) rfl ?_ ?_
  · refine mX_to 1 (k' := 4) (ls' := [some (.ref 67), some (.int a1), some (.int a2)]) (st' := [.int (-1)]) (h' := h1) rfl ?_
    exact mX_reti rfl
  · refine mX_to 1 (k' := 6) (ls' := [some (.ref 67), some (.int a1), some (.int a2)]) (st' := [.int a2]) (h' := h1) rfl ?_
    refine mX_br (t := 7) (f := 14) (ls' := [some (.ref 67), some (.int a1), some (.int a2)]) (st' := []) (h' := h1) rfl ?_ ?_
    · refine mX_to 1 (k' := 8) (ls' := [some (.ref 67), some (.int a1), some (.int a2)]) (st' := [.ref 67]) (h' := h1) rfl ?_
      refine mX_ckv (v := .ref (gR h1 67 0)) (v' := .ref 68) (k' := 9) (ls' := [some (.ref 67), some (.int a1), some (.int a2)]) (st' := []) (h' := h1) (k_67 L1) (congrArg Value.ref (r_67_0 L1)) rfl ?_
      refine mX_to 3 (k' := 12) (ls' := [some (.ref 67), some (.int a1), some (.int a2)]) (st' := [.int (13 + a1), .ref 68]) (h' := h1) rfl ?_
      refine mX_ckw (v := .int (gI h1 68 (ix (13 + a1)))) (v' := .int (gI h1 68 (ix (13 + a1)))) (k' := 13) (ls' := [some (.ref 67), some (.int a1), some (.int a2)]) (st' := []) (h' := h1) (ckA1 (k_68 L1) (n_68 L1)) rfl rfl fun c3 => ?_
      refine mX_to 1 (k' := 29) (ls' := [some (.ref 67), some (.int a1), some (.int a2)]) (st' := [.int (gI h1 68 (ix (13 + a1)))]) (h' := h1) rfl ?_
      exact mX_reti rfl
    · refine mX_to 2 (k' := 16) (ls' := [some (.ref 67), some (.int a1), some (.int a2)]) (st' := [.int 1, .int a2]) (h' := h1) rfl ?_
      refine mX_br (t := 17) (f := 21) (ls' := [some (.ref 67), some (.int a1), some (.int a2)]) (st' := []) (h' := h1) rfl ?_ ?_
      · refine mX_to 2 (k' := 19) (ls' := [some (.ref 67), some (.int a1), some (.int a2)]) (st' := [.int a1, .ref 67]) (h' := h1) rfl ?_
        refine mX_ckct (m := mcl (mE mtab d 161 [.ref 67, .int a1] h1) 1 20 [some (.ref 67), some (.int a1), some (.int a2)] []) (k_67 L1) rfl ?_
        refine mk_cIe (o := F_X11_peopleIn d a1 h1) ?_
        intro x5 h4 eh4
        have L4 : lay h4 := lay_call d 161 [.ref 67, .int a1] h1 _ h4 rfl eh4 L1
        refine mX_to 1 (k' := 29) (ls' := [some (.ref 67), some (.int a1), some (.int a2)]) (st' := [.int x5]) (h' := h4) rfl ?_
        exact mX_reti rfl
      · refine mX_to 2 (k' := 23) (ls' := [some (.ref 67), some (.int a1), some (.int a2)]) (st' := [.int 2, .int a2]) (h' := h1) rfl ?_
        refine mX_br (t := 24) (f := 28) (ls' := [some (.ref 67), some (.int a1), some (.int a2)]) (st' := []) (h' := h1) rfl ?_ ?_
        · refine mX_to 2 (k' := 26) (ls' := [some (.ref 67), some (.int a1), some (.int a2)]) (st' := [.int a1, .ref 67]) (h' := h1) rfl ?_
          refine mX_ckct (m := mcl (mE mtab d 162 [.ref 67, .int a1] h1) 1 27 [some (.ref 67), some (.int a1), some (.int a2)] []) (k_67 L1) rfl ?_
          refine mk_cIe (o := F_X11_loadOf d a1 h1) ?_
          intro x7 h6 eh6
          have L6 : lay h6 := lay_call d 162 [.ref 67, .int a1] h1 _ h6 rfl eh6 L1
          refine mX_to 1 (k' := 29) (ls' := [some (.ref 67), some (.int a1), some (.int a2)]) (st' := [.int x7]) (h' := h6) rfl ?_
          exact mX_reti rfl
        · refine mX_to 1 (k' := 29) (ls' := [some (.ref 67), some (.int a1), some (.int a2)]) (st' := [.int (-1)]) (h' := h1) rfl ?_
          exact mX_reti rfl
theorem S_X9_weightOfAll_4 {h : MH} (L : lay h) (d : Nat) (q : Nat) (T : tAt q) (l1 : Int32) (l2 : Int32) : G_X9_weightOfAll_4 d q l1 l2 h = (if l2 < (gI h q 0) then ck (ib l2 4) (lt_ (l1 + (gI h (q + 1) (ix l2))) fun v1 => G_X9_weightOfAll_4 d q v1 (l2 + 1) h) else G_X9_weightOfAll_19 d q l1 0 h) := by
  refine mX_to 2 (k' := 6) (ls' := [some (.ref q), some (.int l1), some (.int l2)]) (st' := [.ref q, .int l2]) (h' := h) rfl ?_
  refine mX_ckv (v := .int (gI h q 0)) (v' := .int (gI h q 0)) (k' := 7) (ls' := [some (.ref q), some (.int l1), some (.int l2)]) (st' := [.int l2]) (h' := h) (kT0 L T) rfl rfl ?_
  refine mX_br (t := 8) (f := 17) (ls' := [some (.ref q), some (.int l1), some (.int l2)]) (st' := []) (h' := h) rfl ?_ ?_
  · refine mX_to 2 (k' := 10) (ls' := [some (.ref q), some (.int l1), some (.int l2)]) (st' := [.ref q, .int l1]) (h' := h) rfl ?_
    refine mX_ckv (v := .ref (gR h q 1)) (v' := .ref (q + 1)) (k' := 11) (ls' := [some (.ref q), some (.int l1), some (.int l2)]) (st' := [.int l1]) (h' := h) (kT0 L T) (congrArg Value.ref (rT1 L T)) rfl ?_
    refine mX_to 1 (k' := 12) (ls' := [some (.ref q), some (.int l1), some (.int l2)]) (st' := [.int l2, .ref (q + 1), .int l1]) (h' := h) rfl ?_
    refine mX_ckw (v := .int (gI h (q + 1) (ix l2))) (v' := .int (gI h (q + 1) (ix l2))) (k' := 13) (ls' := [some (.ref q), some (.int l1), some (.int l2)]) (st' := [.int l1]) (h' := h) (ckA1 (kT1 L T) (nT1 L T)) rfl rfl fun c2 => ?_
    refine mX_to 1 (k' := 14) (ls' := [some (.ref q), some (.int l1), some (.int l2)]) (st' := [.int (l1 + (gI h (q + 1) (ix l2)))]) (h' := h) rfl ?_
    refine lt_gen (X := fun v1 : Int32 => mX (mE mtab d) KX9_weightOfAll 14 [some (.ref q), some (.int l1), some (.int l2)] [.int v1] h) fun v1 => ?_
    refine mX_to 3 (k' := 4) (ls' := [some (.ref q), some (.int v1), some (.int (l2 + 1))]) (st' := []) (h' := h) rfl ?_
    rfl
  · refine mX_to 2 (k' := 19) (ls' := [some (.ref q), some (.int l1), some (.int 0)]) (st' := []) (h' := h) rfl ?_
    rfl
theorem S_X9_weightOfAll_19 {h : MH} (L : lay h) (d : Nat) (q : Nat) (T : tAt q) (l1 : Int32) (l2 : Int32) : G_X9_weightOfAll_19 d q l1 l2 h = (if l2 < 9 then ck (ib l2 9) (lt_ (l1 + (gI h (q + 4) (ix l2))) fun v3 => G_X9_weightOfAll_19 d q v3 (l2 + 1) h) else some (.int l1, h)) := by
  refine mX_to 2 (k' := 21) (ls' := [some (.ref q), some (.int l1), some (.int l2)]) (st' := [.int 9, .int l2]) (h' := h) rfl ?_
  refine mX_br (t := 22) (f := 31) (ls' := [some (.ref q), some (.int l1), some (.int l2)]) (st' := []) (h' := h) rfl ?_ ?_
  · refine mX_to 2 (k' := 24) (ls' := [some (.ref q), some (.int l1), some (.int l2)]) (st' := [.ref q, .int l1]) (h' := h) rfl ?_
    refine mX_ckv (v := .ref (gR h q 4)) (v' := .ref (q + 4)) (k' := 25) (ls' := [some (.ref q), some (.int l1), some (.int l2)]) (st' := [.int l1]) (h' := h) (kT0 L T) (congrArg Value.ref (rT4 L T)) rfl ?_
    refine mX_to 1 (k' := 26) (ls' := [some (.ref q), some (.int l1), some (.int l2)]) (st' := [.int l2, .ref (q + 4), .int l1]) (h' := h) rfl ?_
    refine mX_ckw (v := .int (gI h (q + 4) (ix l2))) (v' := .int (gI h (q + 4) (ix l2))) (k' := 27) (ls' := [some (.ref q), some (.int l1), some (.int l2)]) (st' := [.int l1]) (h' := h) (ckA1 (kT4 L T) (nT4 L T)) rfl rfl fun c4 => ?_
    refine mX_to 1 (k' := 28) (ls' := [some (.ref q), some (.int l1), some (.int l2)]) (st' := [.int (l1 + (gI h (q + 4) (ix l2)))]) (h' := h) rfl ?_
    refine lt_gen (X := fun v3 : Int32 => mX (mE mtab d) KX9_weightOfAll 28 [some (.ref q), some (.int l1), some (.int l2)] [.int v3] h) fun v3 => ?_
    refine mX_to 3 (k' := 19) (ls' := [some (.ref q), some (.int v3), some (.int (l2 + 1))]) (st' := []) (h' := h) rfl ?_
    rfl
  · refine mX_to 1 (k' := 32) (ls' := [some (.ref q), some (.int l1), some (.int l2)]) (st' := [.int l1]) (h' := h) rfl ?_
    exact mX_reti rfl
theorem S_X9_weightOfAll {h : MH} (L : lay h) (d : Nat) (q : Nat) (T : tAt q) : F_X9_weightOfAll (d + 1) q h = G_X9_weightOfAll_4 d q 0 0 h := by
  refine mE_eq (q := (yX9_weightOfAll, cX9_weightOfAll, 3, (some .int), KX9_weightOfAll)) (C := KX9_weightOfAll) (ls := [some (.ref q), none, none]) rfl rfl rfl rfl ?_
  refine mX_to 4 (k' := 4) (ls' := [some (.ref q), some (.int 0), some (.int 0)]) (st' := []) (h' := h) rfl ?_
  rfl
theorem S_X10_is {h : MH} (L : lay h) (d : Nat) (a1 : Int32) : F_X10_is (d + 1) a1 h = (if a1 = 0 then some (.int (gI h 10 5), h) else (if a1 = 1 then some (.int (gI h 10 6), h) else (if a1 = 2 then cI (F_X9_tipNow d 10 h) (fun x2 h1 => some (.int x2, h1)) else (if a1 = 3 then cI (F_X9_tipsNow d 10 h) (fun x4 h3 => some (.int x4, h3)) else (if a1 = 4 then cI (F_X9_weightOfAll d 10 h) (fun x6 h5 => some (.int x6, h5)) else some (.int (-1000), h)))))) := by
  refine mE_eq (q := (yX10_is, cX10_is, 3, (some .int), KX10_is)) (C := KX10_is) (ls := [some (.ref 8), some (.int a1), none]) rfl rfl rfl rfl ?_
  refine mX_to 1 (k' := 1) (ls' := [some (.ref 8), some (.int a1), none]) (st' := [.ref 8]) (h' := h) rfl ?_
  refine mX_ckv (v := .ref (gR h 8 0)) (v' := .ref 9) (k' := 2) (ls' := [some (.ref 8), some (.int a1), none]) (st' := []) (h' := h) (k_8 L) (congrArg Value.ref (r_8_0 L)) rfl ?_
  refine mX_ckv (v := .ref (gR h 9 0)) (v' := .ref 10) (k' := 3) (ls' := [some (.ref 8), some (.int a1), none]) (st' := []) (h' := h) (k_9 L) (congrArg Value.ref (r_9_0 L)) rfl ?_
  refine mX_to 2 (k' := 5) (ls' := [some (.ref 8), some (.int a1), some (.ref 10)]) (st' := [.int a1]) (h' := h) rfl ?_
  refine mX_sw (x := a1) (t := 21) (sw := [(0, 6), (1, 9), (2, 12), (3, 15), (4, 18)]) (ls' := [some (.ref 8), some (.int a1), some (.ref 10)]) (st' := []) (h' := h) rfl ?_
  refine msw_cons ?_ ?_
  · refine mX_to 1 (k' := 7) (ls' := [some (.ref 8), some (.int a1), some (.ref 10)]) (st' := [.ref 10]) (h' := h) rfl ?_
    refine mX_ckv (v := .int (gI h 10 5)) (v' := .int (gI h 10 5)) (k' := 8) (ls' := [some (.ref 8), some (.int a1), some (.ref 10)]) (st' := []) (h' := h) (k_10 L) rfl rfl ?_
    exact mX_reti rfl
  refine msw_cons ?_ ?_
  · refine mX_to 1 (k' := 10) (ls' := [some (.ref 8), some (.int a1), some (.ref 10)]) (st' := [.ref 10]) (h' := h) rfl ?_
    refine mX_ckv (v := .int (gI h 10 6)) (v' := .int (gI h 10 6)) (k' := 11) (ls' := [some (.ref 8), some (.int a1), some (.ref 10)]) (st' := []) (h' := h) (k_10 L) rfl rfl ?_
    exact mX_reti rfl
  refine msw_cons ?_ ?_
  · refine mX_to 1 (k' := 13) (ls' := [some (.ref 8), some (.int a1), some (.ref 10)]) (st' := [.ref 10]) (h' := h) rfl ?_
    refine mX_ckct (m := mcl (mE mtab d 139 [.ref 10] h) 1 14 [some (.ref 8), some (.int a1), some (.ref 10)] []) (k_10 L) rfl ?_
    refine mk_cIe (o := F_X9_tipNow d 10 h) ?_
    intro x2 h1 eh1
    have L1 : lay h1 := lay_call d 139 [.ref 10] h _ h1 rfl eh1 L
    exact mX_reti rfl
  refine msw_cons ?_ ?_
  · refine mX_to 1 (k' := 16) (ls' := [some (.ref 8), some (.int a1), some (.ref 10)]) (st' := [.ref 10]) (h' := h) rfl ?_
    refine mX_ckct (m := mcl (mE mtab d 145 [.ref 10] h) 1 17 [some (.ref 8), some (.int a1), some (.ref 10)] []) (k_10 L) rfl ?_
    refine mk_cIe (o := F_X9_tipsNow d 10 h) ?_
    intro x4 h3 eh3
    have L3 : lay h3 := lay_call d 145 [.ref 10] h _ h3 rfl eh3 L
    exact mX_reti rfl
  refine msw_cons ?_ ?_
  · refine mX_to 1 (k' := 19) (ls' := [some (.ref 8), some (.int a1), some (.ref 10)]) (st' := [.ref 10]) (h' := h) rfl ?_
    refine mX_ckct (m := mcl (mE mtab d 218 [.ref 10] h) 1 20 [some (.ref 8), some (.int a1), some (.ref 10)] []) (k_10 L) rfl ?_
    refine mk_cIe (o := F_X9_weightOfAll d 10 h) ?_
    intro x6 h5 eh5
    have L5 : lay h5 := lay_call d 218 [.ref 10] h _ h5 rfl eh5 L
    exact mX_reti rfl
  refine msw_nil ?_
  refine mX_to 1 (k' := 22) (ls' := [some (.ref 8), some (.int a1), some (.ref 10)]) (st' := [.int (-1000)]) (h' := h) rfl ?_
  exact mX_reti rfl
theorem S_X11_is {h : MH} (L : lay h) (d : Nat) (a1 : Int32) : F_X11_is (d + 1) a1 h = cI (F_X11_isIn d a1 0 1 h) (fun x2 h1 => (if x2 = 0 then (if a1 = 2 then cI (F_X11_tipNow d h1) (fun x4 h3 => some (.int x4, h3)) else (if a1 = 3 then cI (F_X11_tipsNow d h1) (fun x6 h5 => some (.int x6, h5)) else (if a1 = 4 then cI (F_X11_everyone d h1) (fun x8 h7 => cI (F_X11_weightOf d x8 h7) (fun x10 h9 => cI (F_X11_allSnow d h9) (fun x12 h11 => some (.int (x10 + x12), h11)))) else some (.int (-1000), h1)))) else ck (ib (6 + a1) 1498) (some (.int (gI h1 68 (ix (6 + a1))), h1)))) := by
  refine mE_eq (q := (yX11_is, cX11_is, 2, (some .int), KX11_is)) (C := KX11_is) (ls := [some (.ref 67), some (.int a1)]) rfl rfl rfl rfl ?_
  refine mX_to 3 (k' := 3) (ls' := [some (.ref 67), some (.int a1)]) (st' := [.int 1, .int 0, .int a1]) (h' := h) rfl ?_
  refine mX_cIe (o := F_X11_isIn d a1 0 1 h) (k' := 4) (ls' := [some (.ref 67), some (.int a1)]) (st' := []) rfl ?_
  intro x2 h1 eh1
  have L1 : lay h1 := lay_call d 14 [.int a1, .int 0, .int 1] h _ h1 rfl eh1 L
  refine mX_br (t := 12) (f := 5) (ls' := [some (.ref 67), some (.int a1)]) (st' := []) (h' := h1) rfl ?_ ?_
  · refine mX_to 2 (k' := 14) (ls' := [some (.ref 67), some (.int a1)]) (st' := [.int 2, .int a1]) (h' := h1) rfl ?_
    refine mX_br (t := 15) (f := 18) (ls' := [some (.ref 67), some (.int a1)]) (st' := []) (h' := h1) rfl ?_ ?_
    · refine mX_to 1 (k' := 16) (ls' := [some (.ref 67), some (.int a1)]) (st' := [.ref 67]) (h' := h1) rfl ?_
      refine mX_ckct (m := mcl (mE mtab d 156 [.ref 67] h1) 1 17 [some (.ref 67), some (.int a1)] []) (k_67 L1) rfl ?_
      refine mk_cIe (o := F_X11_tipNow d h1) ?_
      intro x4 h3 eh3
      have L3 : lay h3 := lay_call d 156 [.ref 67] h1 _ h3 rfl eh3 L1
      refine mX_to 1 (k' := 36) (ls' := [some (.ref 67), some (.int a1)]) (st' := [.int x4]) (h' := h3) rfl ?_
      exact mX_reti rfl
    · refine mX_to 2 (k' := 20) (ls' := [some (.ref 67), some (.int a1)]) (st' := [.int 3, .int a1]) (h' := h1) rfl ?_
      refine mX_br (t := 21) (f := 24) (ls' := [some (.ref 67), some (.int a1)]) (st' := []) (h' := h1) rfl ?_ ?_
      · refine mX_to 1 (k' := 22) (ls' := [some (.ref 67), some (.int a1)]) (st' := [.ref 67]) (h' := h1) rfl ?_
        refine mX_ckct (m := mcl (mE mtab d 172 [.ref 67] h1) 1 23 [some (.ref 67), some (.int a1)] []) (k_67 L1) rfl ?_
        refine mk_cIe (o := F_X11_tipsNow d h1) ?_
        intro x6 h5 eh5
        have L5 : lay h5 := lay_call d 172 [.ref 67] h1 _ h5 rfl eh5 L1
        refine mX_to 1 (k' := 36) (ls' := [some (.ref 67), some (.int a1)]) (st' := [.int x6]) (h' := h5) rfl ?_
        exact mX_reti rfl
      · refine mX_to 2 (k' := 26) (ls' := [some (.ref 67), some (.int a1)]) (st' := [.int 4, .int a1]) (h' := h1) rfl ?_
        refine mX_br (t := 27) (f := 35) (ls' := [some (.ref 67), some (.int a1)]) (st' := []) (h' := h1) rfl ?_ ?_
        · refine mX_to 2 (k' := 29) (ls' := [some (.ref 67), some (.int a1)]) (st' := [.ref 67, .ref 67]) (h' := h1) rfl ?_
          refine mX_ckct (m := mcl (mE mtab d 154 [.ref 67] h1) 1 30 [some (.ref 67), some (.int a1)] [.ref 67]) (k_67 L1) rfl ?_
          refine mk_cIe (o := F_X11_everyone d h1) ?_
          intro x8 h7 eh7
          have L7 : lay h7 := lay_call d 154 [.ref 67] h1 _ h7 rfl eh7 L1
          refine mX_ckct (m := mcl (mE mtab d 158 [.ref 67, .int x8] h7) 1 31 [some (.ref 67), some (.int a1)] []) (k_67 L7) rfl ?_
          refine mk_cIe (o := F_X11_weightOf d x8 h7) ?_
          intro x10 h9 eh9
          have L9 : lay h9 := lay_call d 158 [.ref 67, .int x8] h7 _ h9 rfl eh9 L7
          refine mX_to 1 (k' := 32) (ls' := [some (.ref 67), some (.int a1)]) (st' := [.ref 67, .int x10]) (h' := h9) rfl ?_
          refine mX_ckct (m := mcl (mE mtab d 159 [.ref 67] h9) 1 33 [some (.ref 67), some (.int a1)] [.int x10]) (k_67 L9) rfl ?_
          refine mk_cIe (o := F_X11_allSnow d h9) ?_
          intro x12 h11 eh11
          have L11 : lay h11 := lay_call d 159 [.ref 67] h9 _ h11 rfl eh11 L9
          refine mX_to 2 (k' := 36) (ls' := [some (.ref 67), some (.int a1)]) (st' := [.int (x10 + x12)]) (h' := h11) rfl ?_
          exact mX_reti rfl
        · refine mX_to 1 (k' := 36) (ls' := [some (.ref 67), some (.int a1)]) (st' := [.int (-1000)]) (h' := h1) rfl ?_
          exact mX_reti rfl
  · refine mX_to 1 (k' := 6) (ls' := [some (.ref 67), some (.int a1)]) (st' := [.ref 67]) (h' := h1) rfl ?_
    refine mX_ckv (v := .ref (gR h1 67 0)) (v' := .ref 68) (k' := 7) (ls' := [some (.ref 67), some (.int a1)]) (st' := []) (h' := h1) (k_67 L1) (congrArg Value.ref (r_67_0 L1)) rfl ?_
    refine mX_to 3 (k' := 10) (ls' := [some (.ref 67), some (.int a1)]) (st' := [.int (6 + a1), .ref 68]) (h' := h1) rfl ?_
    refine mX_ckw (v := .int (gI h1 68 (ix (6 + a1)))) (v' := .int (gI h1 68 (ix (6 + a1)))) (k' := 11) (ls' := [some (.ref 67), some (.int a1)]) (st' := []) (h' := h1) (ckA1 (k_68 L1) (n_68 L1)) rfl rfl fun c13 => ?_
    refine mX_to 1 (k' := 36) (ls' := [some (.ref 67), some (.int a1)]) (st' := [.int (gI h1 68 (ix (6 + a1)))]) (h' := h1) rfl ?_
    exact mX_reti rfl
theorem S_X9_entry {h : MH} (L : lay h) (d : Nat) (q : Nat) (a1 : Int32) (a2 : Int32) (T : tAt q) : F_X9_entry (d + 1) q a1 a2 h = cI (F_X10_within d a1 0 ((gI h q 8) - 1) h) (fun x2 h1 => (if x2 = 0 then some (.int (-2), h1) else (if a2 = 0 then ck (ib a1 30) (some (.int ((gI h1 (q + 5) (ix a1)) / 324), h1)) else (if a2 = 1 then ck (ib a1 30) (some (.int (((gI h1 (q + 5) (ix a1)) / 81) - ((gI h1 (q + 5) (ix a1)) / 81) / 4 * 4), h1)) else (if a2 = 2 then ck (ib a1 30) (some (.int (((gI h1 (q + 5) (ix a1)) / 9) - ((gI h1 (q + 5) (ix a1)) / 9) / 9 * 9), h1)) else (if a2 = 3 then ck (ib a1 30) (some (.int ((gI h1 (q + 5) (ix a1)) - (gI h1 (q + 5) (ix a1)) / 9 * 9), h1)) else some (.int (-2), h1))))))) := by
  refine mE_eq (q := (yX9_entry, cX9_entry, 3, (some .int), KX9_entry)) (C := KX9_entry) (ls := [some (.ref q), some (.int a1), some (.int a2)]) rfl rfl rfl rfl ?_
  refine mX_to 3 (k' := 3) (ls' := [some (.ref q), some (.int a1), some (.int a2)]) (st' := [.ref q, .int 0, .int a1]) (h' := h) rfl ?_
  refine mX_ckv (v := .int (gI h q 8)) (v' := .int (gI h q 8)) (k' := 4) (ls' := [some (.ref q), some (.int a1), some (.int a2)]) (st' := [.int 0, .int a1]) (h' := h) (kT0 L T) rfl rfl ?_
  refine mX_to 2 (k' := 6) (ls' := [some (.ref q), some (.int a1), some (.int a2)]) (st' := [.int ((gI h q 8) - 1), .int 0, .int a1]) (h' := h) rfl ?_
  refine mX_cIe (o := F_X10_within d a1 0 ((gI h q 8) - 1) h) (k' := 7) (ls' := [some (.ref q), some (.int a1), some (.int a2)]) (st' := []) rfl ?_
  intro x2 h1 eh1
  have L1 : lay h1 := lay_call d 11 [.int a1, .int 0, .int ((gI h q 8) - 1)] h _ h1 rfl eh1 L
  refine mX_br (t := 8) (f := 10) (ls' := [some (.ref q), some (.int a1), some (.int a2)]) (st' := []) (h' := h1) rfl ?_ ?_
  · refine mX_to 1 (k' := 9) (ls' := [some (.ref q), some (.int a1), some (.int a2)]) (st' := [.int (-2)]) (h' := h1) rfl ?_
    exact mX_reti rfl
  · refine mX_to 1 (k' := 11) (ls' := [some (.ref q), some (.int a1), some (.int a2)]) (st' := [.int a2]) (h' := h1) rfl ?_
    refine mX_sw (x := a2) (t := 44) (sw := [(0, 12), (1, 19), (2, 28), (3, 37)]) (ls' := [some (.ref q), some (.int a1), some (.int a2)]) (st' := []) (h' := h1) rfl ?_
    refine msw_cons ?_ ?_
    · refine mX_to 1 (k' := 13) (ls' := [some (.ref q), some (.int a1), some (.int a2)]) (st' := [.ref q]) (h' := h1) rfl ?_
      refine mX_ckv (v := .ref (gR h1 q 7)) (v' := .ref (q + 5)) (k' := 14) (ls' := [some (.ref q), some (.int a1), some (.int a2)]) (st' := []) (h' := h1) (kT0 L1 T) (congrArg Value.ref (rT7 L1 T)) rfl ?_
      refine mX_to 1 (k' := 15) (ls' := [some (.ref q), some (.int a1), some (.int a2)]) (st' := [.int a1, .ref (q + 5)]) (h' := h1) rfl ?_
      refine mX_ckw (v := .int (gI h1 (q + 5) (ix a1))) (v' := .int (gI h1 (q + 5) (ix a1))) (k' := 16) (ls' := [some (.ref q), some (.int a1), some (.int a2)]) (st' := []) (h' := h1) (ckA1 (kT5 L1 T) (nT5 L1 T)) rfl rfl fun c3 => ?_
      refine mX_to 1 (k' := 17) (ls' := [some (.ref q), some (.int a1), some (.int a2)]) (st' := [.int 324, .int (gI h1 (q + 5) (ix a1))]) (h' := h1) rfl ?_
      refine mX_ckt (c := ¬ (324 : Int32) = 0) (k' := 18) (ls' := [some (.ref q), some (.int a1), some (.int a2)]) (st' := [.int ((gI h1 (q + 5) (ix a1)) / 324)]) (h' := h1) (by decide) rfl ?_
      exact mX_reti rfl
    refine msw_cons ?_ ?_
    · refine mX_to 1 (k' := 20) (ls' := [some (.ref q), some (.int a1), some (.int a2)]) (st' := [.ref q]) (h' := h1) rfl ?_
      refine mX_ckv (v := .ref (gR h1 q 7)) (v' := .ref (q + 5)) (k' := 21) (ls' := [some (.ref q), some (.int a1), some (.int a2)]) (st' := []) (h' := h1) (kT0 L1 T) (congrArg Value.ref (rT7 L1 T)) rfl ?_
      refine mX_to 1 (k' := 22) (ls' := [some (.ref q), some (.int a1), some (.int a2)]) (st' := [.int a1, .ref (q + 5)]) (h' := h1) rfl ?_
      refine mX_ckw (v := .int (gI h1 (q + 5) (ix a1))) (v' := .int (gI h1 (q + 5) (ix a1))) (k' := 23) (ls' := [some (.ref q), some (.int a1), some (.int a2)]) (st' := []) (h' := h1) (ckA1 (kT5 L1 T) (nT5 L1 T)) rfl rfl fun c4 => ?_
      refine mX_to 1 (k' := 24) (ls' := [some (.ref q), some (.int a1), some (.int a2)]) (st' := [.int 81, .int (gI h1 (q + 5) (ix a1))]) (h' := h1) rfl ?_
      refine mX_ckt (c := ¬ (81 : Int32) = 0) (k' := 25) (ls' := [some (.ref q), some (.int a1), some (.int a2)]) (st' := [.int ((gI h1 (q + 5) (ix a1)) / 81)]) (h' := h1) (by decide) rfl ?_
      refine mX_to 1 (k' := 26) (ls' := [some (.ref q), some (.int a1), some (.int a2)]) (st' := [.int 4, .int ((gI h1 (q + 5) (ix a1)) / 81)]) (h' := h1) rfl ?_
      refine mX_ckt (c := ¬ (4 : Int32) = 0) (k' := 27) (ls' := [some (.ref q), some (.int a1), some (.int a2)]) (st' := [.int (((gI h1 (q + 5) (ix a1)) / 81) - ((gI h1 (q + 5) (ix a1)) / 81) / 4 * 4)]) (h' := h1) (by decide) rfl ?_
      exact mX_reti rfl
    refine msw_cons ?_ ?_
    · refine mX_to 1 (k' := 29) (ls' := [some (.ref q), some (.int a1), some (.int a2)]) (st' := [.ref q]) (h' := h1) rfl ?_
      refine mX_ckv (v := .ref (gR h1 q 7)) (v' := .ref (q + 5)) (k' := 30) (ls' := [some (.ref q), some (.int a1), some (.int a2)]) (st' := []) (h' := h1) (kT0 L1 T) (congrArg Value.ref (rT7 L1 T)) rfl ?_
      refine mX_to 1 (k' := 31) (ls' := [some (.ref q), some (.int a1), some (.int a2)]) (st' := [.int a1, .ref (q + 5)]) (h' := h1) rfl ?_
      refine mX_ckw (v := .int (gI h1 (q + 5) (ix a1))) (v' := .int (gI h1 (q + 5) (ix a1))) (k' := 32) (ls' := [some (.ref q), some (.int a1), some (.int a2)]) (st' := []) (h' := h1) (ckA1 (kT5 L1 T) (nT5 L1 T)) rfl rfl fun c5 => ?_
      refine mX_to 1 (k' := 33) (ls' := [some (.ref q), some (.int a1), some (.int a2)]) (st' := [.int 9, .int (gI h1 (q + 5) (ix a1))]) (h' := h1) rfl ?_
      refine mX_ckt (c := ¬ (9 : Int32) = 0) (k' := 34) (ls' := [some (.ref q), some (.int a1), some (.int a2)]) (st' := [.int ((gI h1 (q + 5) (ix a1)) / 9)]) (h' := h1) (by decide) rfl ?_
      refine mX_to 1 (k' := 35) (ls' := [some (.ref q), some (.int a1), some (.int a2)]) (st' := [.int 9, .int ((gI h1 (q + 5) (ix a1)) / 9)]) (h' := h1) rfl ?_
      refine mX_ckt (c := ¬ (9 : Int32) = 0) (k' := 36) (ls' := [some (.ref q), some (.int a1), some (.int a2)]) (st' := [.int (((gI h1 (q + 5) (ix a1)) / 9) - ((gI h1 (q + 5) (ix a1)) / 9) / 9 * 9)]) (h' := h1) (by decide) rfl ?_
      exact mX_reti rfl
    refine msw_cons ?_ ?_
    · refine mX_to 1 (k' := 38) (ls' := [some (.ref q), some (.int a1), some (.int a2)]) (st' := [.ref q]) (h' := h1) rfl ?_
      refine mX_ckv (v := .ref (gR h1 q 7)) (v' := .ref (q + 5)) (k' := 39) (ls' := [some (.ref q), some (.int a1), some (.int a2)]) (st' := []) (h' := h1) (kT0 L1 T) (congrArg Value.ref (rT7 L1 T)) rfl ?_
      refine mX_to 1 (k' := 40) (ls' := [some (.ref q), some (.int a1), some (.int a2)]) (st' := [.int a1, .ref (q + 5)]) (h' := h1) rfl ?_
      refine mX_ckw (v := .int (gI h1 (q + 5) (ix a1))) (v' := .int (gI h1 (q + 5) (ix a1))) (k' := 41) (ls' := [some (.ref q), some (.int a1), some (.int a2)]) (st' := []) (h' := h1) (ckA1 (kT5 L1 T) (nT5 L1 T)) rfl rfl fun c6 => ?_
      refine mX_to 1 (k' := 42) (ls' := [some (.ref q), some (.int a1), some (.int a2)]) (st' := [.int 9, .int (gI h1 (q + 5) (ix a1))]) (h' := h1) rfl ?_
      refine mX_ckt (c := ¬ (9 : Int32) = 0) (k' := 43) (ls' := [some (.ref q), some (.int a1), some (.int a2)]) (st' := [.int ((gI h1 (q + 5) (ix a1)) - (gI h1 (q + 5) (ix a1)) / 9 * 9)]) (h' := h1) (by decide) rfl ?_
      exact mX_reti rfl
    refine msw_nil ?_
    refine mX_to 1 (k' := 45) (ls' := [some (.ref q), some (.int a1), some (.int a2)]) (st' := [.int (-2)]) (h' := h1) rfl ?_
    exact mX_reti rfl
theorem S_X10_book {h : MH} (L : lay h) (d : Nat) (a1 : Int32) (a2 : Int32) : F_X10_book (d + 1) a1 a2 h = (if a1 = (-1) then some (.int (gI h 10 8), h) else cI (F_X9_entry d 10 a1 a2 h) (fun x2 h1 => some (.int x2, h1))) := by
  refine mE_eq (q := (yX10_book, cX10_book, 3, (some .int), KX10_book)) (C := KX10_book) (ls := [some (.ref 8), some (.int a1), some (.int a2)]) rfl rfl rfl rfl ?_
  refine mX_to 2 (k' := 2) (ls' := [some (.ref 8), some (.int a1), some (.int a2)]) (st' := [.int (-1), .int a1]) (h' := h) rfl ?_
  refine mX_br (t := 3) (f := 8) (ls' := [some (.ref 8), some (.int a1), some (.int a2)]) (st' := []) (h' := h) rfl ?_ ?_
  · refine mX_to 1 (k' := 4) (ls' := [some (.ref 8), some (.int a1), some (.int a2)]) (st' := [.ref 8]) (h' := h) rfl ?_
    refine mX_ckv (v := .ref (gR h 8 0)) (v' := .ref 9) (k' := 5) (ls' := [some (.ref 8), some (.int a1), some (.int a2)]) (st' := []) (h' := h) (k_8 L) (congrArg Value.ref (r_8_0 L)) rfl ?_
    refine mX_ckv (v := .ref (gR h 9 0)) (v' := .ref 10) (k' := 6) (ls' := [some (.ref 8), some (.int a1), some (.int a2)]) (st' := []) (h' := h) (k_9 L) (congrArg Value.ref (r_9_0 L)) rfl ?_
    refine mX_ckv (v := .int (gI h 10 8)) (v' := .int (gI h 10 8)) (k' := 7) (ls' := [some (.ref 8), some (.int a1), some (.int a2)]) (st' := []) (h' := h) (k_10 L) rfl rfl ?_
    refine mX_to 1 (k' := 14) (ls' := [some (.ref 8), some (.int a1), some (.int a2)]) (st' := [.int (gI h 10 8)]) (h' := h) rfl ?_
    exact mX_reti rfl
  · refine mX_to 1 (k' := 9) (ls' := [some (.ref 8), some (.int a1), some (.int a2)]) (st' := [.ref 8]) (h' := h) rfl ?_
    refine mX_ckv (v := .ref (gR h 8 0)) (v' := .ref 9) (k' := 10) (ls' := [some (.ref 8), some (.int a1), some (.int a2)]) (st' := []) (h' := h) (k_8 L) (congrArg Value.ref (r_8_0 L)) rfl ?_
    refine mX_ckv (v := .ref (gR h 9 0)) (v' := .ref 10) (k' := 11) (ls' := [some (.ref 8), some (.int a1), some (.int a2)]) (st' := []) (h' := h) (k_9 L) (congrArg Value.ref (r_9_0 L)) rfl ?_
    refine mX_to 2 (k' := 13) (ls' := [some (.ref 8), some (.int a1), some (.int a2)]) (st' := [.int a2, .int a1, .ref 10]) (h' := h) rfl ?_
    refine mX_ckct (m := mcl (mE mtab d 221 [.ref 10, .int a1, .int a2] h) 1 14 [some (.ref 8), some (.int a1), some (.int a2)] []) (k_10 L) rfl ?_
    refine mk_cIe (o := F_X9_entry d 10 a1 a2 h) ?_
    intro x2 h1 eh1
    have L1 : lay h1 := lay_call d 221 [.ref 10, .int a1, .int a2] h _ h1 rfl eh1 L
    exact mX_reti rfl
theorem S_X11_entry {h : MH} (L : lay h) (d : Nat) (a1 : Int32) (a2 : Int32) : F_X11_entry (d + 1) a1 a2 h = ck (ib (1468 + a1) 1498) (lt_ (gI h 68 (ix (1468 + a1))) fun v1 => (if a2 = 0 then some (.int (v1 / 324), h) else (if a2 = 1 then some (.int ((v1 / 81) - (v1 / 81) / 4 * 4), h) else (if a2 = 2 then some (.int ((v1 / 9) - (v1 / 9) / 9 * 9), h) else some (.int (v1 - v1 / 9 * 9), h))))) := by
  refine mE_eq (q := (yX11_entry, cX11_entry, 4, (some .int), KX11_entry)) (C := KX11_entry) (ls := [some (.ref 67), some (.int a1), some (.int a2), none]) rfl rfl rfl rfl ?_
  refine mX_to 1 (k' := 1) (ls' := [some (.ref 67), some (.int a1), some (.int a2), none]) (st' := [.ref 67]) (h' := h) rfl ?_
  refine mX_ckv (v := .ref (gR h 67 0)) (v' := .ref 68) (k' := 2) (ls' := [some (.ref 67), some (.int a1), some (.int a2), none]) (st' := []) (h' := h) (k_67 L) (congrArg Value.ref (r_67_0 L)) rfl ?_
  refine mX_to 3 (k' := 5) (ls' := [some (.ref 67), some (.int a1), some (.int a2), none]) (st' := [.int (1468 + a1), .ref 68]) (h' := h) rfl ?_
  refine mX_ckw (v := .int (gI h 68 (ix (1468 + a1)))) (v' := .int (gI h 68 (ix (1468 + a1)))) (k' := 6) (ls' := [some (.ref 67), some (.int a1), some (.int a2), none]) (st' := []) (h' := h) (ckA1 (k_68 L) (n_68 L)) rfl rfl fun c2 => ?_
  refine lt_gen (X := fun v1 : Int32 => mX (mE mtab d) KX11_entry 6 [some (.ref 67), some (.int a1), some (.int a2), none] [.int v1] h) fun v1 => ?_
  refine mX_to 2 (k' := 8) (ls' := [some (.ref 67), some (.int a1), some (.int a2), some (.int v1)]) (st' := [.int a2]) (h' := h) rfl ?_
  refine mX_br (t := 9) (f := 13) (ls' := [some (.ref 67), some (.int a1), some (.int a2), some (.int v1)]) (st' := []) (h' := h) rfl ?_ ?_
  · refine mX_to 2 (k' := 11) (ls' := [some (.ref 67), some (.int a1), some (.int a2), some (.int v1)]) (st' := [.int 324, .int v1]) (h' := h) rfl ?_
    refine mX_ckt (c := ¬ (324 : Int32) = 0) (k' := 12) (ls' := [some (.ref 67), some (.int a1), some (.int a2), some (.int v1)]) (st' := [.int (v1 / 324)]) (h' := h) (by decide) rfl ?_
    refine mX_to 1 (k' := 34) (ls' := [some (.ref 67), some (.int a1), some (.int a2), some (.int v1)]) (st' := [.int (v1 / 324)]) (h' := h) rfl ?_
    exact mX_reti rfl
  · refine mX_to 2 (k' := 15) (ls' := [some (.ref 67), some (.int a1), some (.int a2), some (.int v1)]) (st' := [.int 1, .int a2]) (h' := h) rfl ?_
    refine mX_br (t := 16) (f := 22) (ls' := [some (.ref 67), some (.int a1), some (.int a2), some (.int v1)]) (st' := []) (h' := h) rfl ?_ ?_
    · refine mX_to 2 (k' := 18) (ls' := [some (.ref 67), some (.int a1), some (.int a2), some (.int v1)]) (st' := [.int 81, .int v1]) (h' := h) rfl ?_
      refine mX_ckt (c := ¬ (81 : Int32) = 0) (k' := 19) (ls' := [some (.ref 67), some (.int a1), some (.int a2), some (.int v1)]) (st' := [.int (v1 / 81)]) (h' := h) (by decide) rfl ?_
      refine mX_to 1 (k' := 20) (ls' := [some (.ref 67), some (.int a1), some (.int a2), some (.int v1)]) (st' := [.int 4, .int (v1 / 81)]) (h' := h) rfl ?_
      refine mX_ckt (c := ¬ (4 : Int32) = 0) (k' := 21) (ls' := [some (.ref 67), some (.int a1), some (.int a2), some (.int v1)]) (st' := [.int ((v1 / 81) - (v1 / 81) / 4 * 4)]) (h' := h) (by decide) rfl ?_
      refine mX_to 1 (k' := 34) (ls' := [some (.ref 67), some (.int a1), some (.int a2), some (.int v1)]) (st' := [.int ((v1 / 81) - (v1 / 81) / 4 * 4)]) (h' := h) rfl ?_
      exact mX_reti rfl
    · refine mX_to 2 (k' := 24) (ls' := [some (.ref 67), some (.int a1), some (.int a2), some (.int v1)]) (st' := [.int 2, .int a2]) (h' := h) rfl ?_
      refine mX_br (t := 25) (f := 31) (ls' := [some (.ref 67), some (.int a1), some (.int a2), some (.int v1)]) (st' := []) (h' := h) rfl ?_ ?_
      · refine mX_to 2 (k' := 27) (ls' := [some (.ref 67), some (.int a1), some (.int a2), some (.int v1)]) (st' := [.int 9, .int v1]) (h' := h) rfl ?_
        refine mX_ckt (c := ¬ (9 : Int32) = 0) (k' := 28) (ls' := [some (.ref 67), some (.int a1), some (.int a2), some (.int v1)]) (st' := [.int (v1 / 9)]) (h' := h) (by decide) rfl ?_
        refine mX_to 1 (k' := 29) (ls' := [some (.ref 67), some (.int a1), some (.int a2), some (.int v1)]) (st' := [.int 9, .int (v1 / 9)]) (h' := h) rfl ?_
        refine mX_ckt (c := ¬ (9 : Int32) = 0) (k' := 30) (ls' := [some (.ref 67), some (.int a1), some (.int a2), some (.int v1)]) (st' := [.int ((v1 / 9) - (v1 / 9) / 9 * 9)]) (h' := h) (by decide) rfl ?_
        refine mX_to 1 (k' := 34) (ls' := [some (.ref 67), some (.int a1), some (.int a2), some (.int v1)]) (st' := [.int ((v1 / 9) - (v1 / 9) / 9 * 9)]) (h' := h) rfl ?_
        exact mX_reti rfl
      · refine mX_to 2 (k' := 33) (ls' := [some (.ref 67), some (.int a1), some (.int a2), some (.int v1)]) (st' := [.int 9, .int v1]) (h' := h) rfl ?_
        refine mX_ckt (c := ¬ (9 : Int32) = 0) (k' := 34) (ls' := [some (.ref 67), some (.int a1), some (.int a2), some (.int v1)]) (st' := [.int (v1 - v1 / 9 * 9)]) (h' := h) (by decide) rfl ?_
        exact mX_reti rfl
theorem S_X11_book {h : MH} (L : lay h) (d : Nat) (a1 : Int32) (a2 : Int32) : F_X11_book (d + 1) a1 a2 h = (if a1 = (-1) then some (.int (gI h 68 8), h) else cI (F_X11_isIn d a1 0 ((gI h 68 8) - 1) h) (fun x2 h1 => (if x2 = 0 then some (.int (-2), h1) else cI (F_X11_isIn d a2 0 3 h1) (fun x4 h3 => (if x4 = 0 then some (.int (-2), h3) else cI (F_X11_entry d a1 a2 h3) (fun x6 h5 => some (.int x6, h5))))))) := by
  refine mE_eq (q := (yX11_book, cX11_book, 3, (some .int), KX11_book)) (C := KX11_book) (ls := [some (.ref 67), some (.int a1), some (.int a2)]) rfl rfl rfl rfl ?_
  refine mX_to 2 (k' := 2) (ls' := [some (.ref 67), some (.int a1), some (.int a2)]) (st' := [.int (-1), .int a1]) (h' := h) rfl ?_
  refine mX_br (t := 3) (f := 8) (ls' := [some (.ref 67), some (.int a1), some (.int a2)]) (st' := []) (h' := h) rfl ?_ ?_
  · refine mX_to 1 (k' := 4) (ls' := [some (.ref 67), some (.int a1), some (.int a2)]) (st' := [.ref 67]) (h' := h) rfl ?_
    refine mX_ckv (v := .ref (gR h 67 0)) (v' := .ref 68) (k' := 5) (ls' := [some (.ref 67), some (.int a1), some (.int a2)]) (st' := []) (h' := h) (k_67 L) (congrArg Value.ref (r_67_0 L)) rfl ?_
    refine mX_to 1 (k' := 6) (ls' := [some (.ref 67), some (.int a1), some (.int a2)]) (st' := [.int 8, .ref 68]) (h' := h) rfl ?_
    refine mX_ckv (v := .int (gI h 68 (ix (8 : Int32)))) (v' := .int (gI h 68 8)) (k' := 7) (ls' := [some (.ref 67), some (.int a1), some (.int a2)]) (st' := []) (h' := h) ((ckA1 (k_68 L) (n_68 L)).mpr (ib_lit (n := 8) rfl (by decide) (by decide))) (congrArg (fun j => Value.int (gI h 68 j)) (ix_lit (n := 8) rfl (by decide))) rfl ?_
    exact mX_reti rfl
  · refine mX_to 3 (k' := 11) (ls' := [some (.ref 67), some (.int a1), some (.int a2)]) (st' := [.ref 67, .int 0, .int a1]) (h' := h) rfl ?_
    refine mX_ckv (v := .ref (gR h 67 0)) (v' := .ref 68) (k' := 12) (ls' := [some (.ref 67), some (.int a1), some (.int a2)]) (st' := [.int 0, .int a1]) (h' := h) (k_67 L) (congrArg Value.ref (r_67_0 L)) rfl ?_
    refine mX_to 1 (k' := 13) (ls' := [some (.ref 67), some (.int a1), some (.int a2)]) (st' := [.int 8, .ref 68, .int 0, .int a1]) (h' := h) rfl ?_
    refine mX_ckv (v := .int (gI h 68 (ix (8 : Int32)))) (v' := .int (gI h 68 8)) (k' := 14) (ls' := [some (.ref 67), some (.int a1), some (.int a2)]) (st' := [.int 0, .int a1]) (h' := h) ((ckA1 (k_68 L) (n_68 L)).mpr (ib_lit (n := 8) rfl (by decide) (by decide))) (congrArg (fun j => Value.int (gI h 68 j)) (ix_lit (n := 8) rfl (by decide))) rfl ?_
    refine mX_to 2 (k' := 16) (ls' := [some (.ref 67), some (.int a1), some (.int a2)]) (st' := [.int ((gI h 68 8) - 1), .int 0, .int a1]) (h' := h) rfl ?_
    refine mX_cIe (o := F_X11_isIn d a1 0 ((gI h 68 8) - 1) h) (k' := 17) (ls' := [some (.ref 67), some (.int a1), some (.int a2)]) (st' := []) rfl ?_
    intro x2 h1 eh1
    have L1 : lay h1 := lay_call d 14 [.int a1, .int 0, .int ((gI h 68 8) - 1)] h _ h1 rfl eh1 L
    refine mX_br (t := 28) (f := 18) (ls' := [some (.ref 67), some (.int a1), some (.int a2)]) (st' := []) (h' := h1) rfl ?_ ?_
    · refine mX_to 1 (k' := 29) (ls' := [some (.ref 67), some (.int a1), some (.int a2)]) (st' := [.int (-2)]) (h' := h1) rfl ?_
      exact mX_reti rfl
    · refine mX_to 3 (k' := 21) (ls' := [some (.ref 67), some (.int a1), some (.int a2)]) (st' := [.int 3, .int 0, .int a2]) (h' := h1) rfl ?_
      refine mX_cIe (o := F_X11_isIn d a2 0 3 h1) (k' := 22) (ls' := [some (.ref 67), some (.int a1), some (.int a2)]) (st' := []) rfl ?_
      intro x4 h3 eh3
      have L3 : lay h3 := lay_call d 14 [.int a2, .int 0, .int 3] h1 _ h3 rfl eh3 L1
      refine mX_br (t := 28) (f := 23) (ls' := [some (.ref 67), some (.int a1), some (.int a2)]) (st' := []) (h' := h3) rfl ?_ ?_
      · refine mX_to 1 (k' := 29) (ls' := [some (.ref 67), some (.int a1), some (.int a2)]) (st' := [.int (-2)]) (h' := h3) rfl ?_
        exact mX_reti rfl
      · refine mX_to 3 (k' := 26) (ls' := [some (.ref 67), some (.int a1), some (.int a2)]) (st' := [.int a2, .int a1, .ref 67]) (h' := h3) rfl ?_
        refine mX_ckct (m := mcl (mE mtab d 223 [.ref 67, .int a1, .int a2] h3) 1 27 [some (.ref 67), some (.int a1), some (.int a2)] []) (k_67 L3) rfl ?_
        refine mk_cIe (o := F_X11_entry d a1 a2 h3) ?_
        intro x6 h5 eh5
        have L5 : lay h5 := lay_call d 223 [.ref 67, .int a1, .int a2] h3 _ h5 rfl eh5 L3
        refine mX_to 1 (k' := 29) (ls' := [some (.ref 67), some (.int a1), some (.int a2)]) (st' := [.int x6]) (h' := h5) rfl ?_
        exact mX_reti rfl
theorem S_X9_copyFrom {h : MH} (L : lay h) (d : Nat) (q : Nat) (o : Nat) (T : tAt q) (T2 : tAt o) : F_X9_copyFrom (d + 1) q o h = lt_ (sI h q 0 (gI h o 0)) fun h2 => lt_ (rI h2 (q + 1) (va_cpy (gI h2 (o + 1)) (gI h2 (q + 1)) 0 0 4)) fun h4 => lt_ (rI h4 (q + 2) (va_cpy (gI h4 (o + 2)) (gI h4 (q + 2)) 0 0 4)) fun h6 => lt_ (rI h6 (q + 3) (va_cpy (gI h6 (o + 3)) (gI h6 (q + 3)) 0 0 4)) fun h8 => lt_ (rI h8 (q + 4) (va_cpy (gI h8 (o + 4)) (gI h8 (q + 4)) 0 0 9)) fun h10 => lt_ (sI h10 q 5 (gI h10 o 5)) fun h12 => lt_ (sI h12 q 6 (gI h12 o 6)) fun h14 => lt_ (rI h14 (q + 5) (va_cpy (gI h14 (o + 5)) (gI h14 (q + 5)) 0 0 30)) fun h16 => lt_ (sI h16 q 8 (gI h16 o 8)) fun h18 => lt_ (sR h18 q 9 (gR h18 o 9)) fun h20 => some (.int 0, h20) := by
  refine mE_eq (q := (yX9_copyFrom, cX9_copyFrom, 2, none, KX9_copyFrom)) (C := KX9_copyFrom) (ls := [some (.ref q), some (.ref o)]) rfl rfl rfl rfl ?_
  refine mX_to 2 (k' := 2) (ls' := [some (.ref q), some (.ref o)]) (st' := [.ref o, .ref q]) (h' := h) rfl ?_
  refine mX_ckv (v := .int (gI h o 0)) (v' := .int (gI h o 0)) (k' := 3) (ls' := [some (.ref q), some (.ref o)]) (st' := [.ref q]) (h' := h) (kT0 L T2) rfl rfl ?_
  refine mX_ckt (k' := 4) (ls' := [some (.ref q), some (.ref o)]) (st' := []) (h' := (sI h q 0 (gI h o 0))) (kT0 L T) rfl ?_
  refine lt_geq2 (X := fun h2 : MH => mX (mE mtab d) KX9_copyFrom 4 [some (.ref q), some (.ref o)] [] h2) (a := (sI h q 0 (gI h o 0))) (a' := (sI h q 0 (gI h o 0))) rfl fun h2 eh2 => ?_
  have L2 : lay h2 := eh2 ▸ layI L (neT0 T)
  refine mX_to 1 (k' := 5) (ls' := [some (.ref q), some (.ref o)]) (st' := [.ref o]) (h' := h2) rfl ?_
  refine mX_ckv (v := .ref (gR h2 o 1)) (v' := .ref (o + 1)) (k' := 6) (ls' := [some (.ref q), some (.ref o)]) (st' := []) (h' := h2) (kT0 L2 T2) (congrArg Value.ref (rT1 L2 T2)) rfl ?_
  refine mX_to 2 (k' := 8) (ls' := [some (.ref q), some (.ref o)]) (st' := [.ref q, .int 0, .ref (o + 1)]) (h' := h2) rfl ?_
  refine mX_ckv (v := .ref (gR h2 q 1)) (v' := .ref (q + 1)) (k' := 9) (ls' := [some (.ref q), some (.ref o)]) (st' := [.int 0, .ref (o + 1)]) (h' := h2) (kT0 L2 T) (congrArg Value.ref (rT1 L2 T)) rfl ?_
  refine mX_to 2 (k' := 11) (ls' := [some (.ref q), some (.ref o)]) (st' := [.int 4, .int 0, .ref (q + 1), .int 0, .ref (o + 1)]) (h' := h2) rfl ?_
  refine mX_ckt (k' := 12) (ls' := [some (.ref q), some (.ref o)]) (st' := []) (h' := (rI h2 (q + 1) (va_cpy (gI h2 (o + 1)) (gI h2 (q + 1)) (ix (0 : Int32)) (ix (0 : Int32)) (ix (4 : Int32))))) (ckC (kT1 L2 T2) (kT1 L2 T) (nT1 L2 T2) (nT1 L2 T) (a := 0) (b := 0) (n := 4) rfl rfl rfl (by decide)) rfl ?_
  refine lt_geq2 (X := fun h4 : MH => mX (mE mtab d) KX9_copyFrom 12 [some (.ref q), some (.ref o)] [] h4) (a := (rI h2 (q + 1) (va_cpy (gI h2 (o + 1)) (gI h2 (q + 1)) (ix (0 : Int32)) (ix (0 : Int32)) (ix (4 : Int32))))) (a' := (rI h2 (q + 1) (va_cpy (gI h2 (o + 1)) (gI h2 (q + 1)) 0 0 4))) (cpy_lit (a := 0) (b := 0) (n := 4) rfl rfl rfl (by decide)) fun h4 eh4 => ?_
  have L4 : lay h4 := eh4 ▸ lay_rI L2 (neT1 T)
  refine mX_to 1 (k' := 13) (ls' := [some (.ref q), some (.ref o)]) (st' := [.ref o]) (h' := h4) rfl ?_
  refine mX_ckv (v := .ref (gR h4 o 2)) (v' := .ref (o + 2)) (k' := 14) (ls' := [some (.ref q), some (.ref o)]) (st' := []) (h' := h4) (kT0 L4 T2) (congrArg Value.ref (rT2 L4 T2)) rfl ?_
  refine mX_to 2 (k' := 16) (ls' := [some (.ref q), some (.ref o)]) (st' := [.ref q, .int 0, .ref (o + 2)]) (h' := h4) rfl ?_
  refine mX_ckv (v := .ref (gR h4 q 2)) (v' := .ref (q + 2)) (k' := 17) (ls' := [some (.ref q), some (.ref o)]) (st' := [.int 0, .ref (o + 2)]) (h' := h4) (kT0 L4 T) (congrArg Value.ref (rT2 L4 T)) rfl ?_
  refine mX_to 2 (k' := 19) (ls' := [some (.ref q), some (.ref o)]) (st' := [.int 4, .int 0, .ref (q + 2), .int 0, .ref (o + 2)]) (h' := h4) rfl ?_
  refine mX_ckt (k' := 20) (ls' := [some (.ref q), some (.ref o)]) (st' := []) (h' := (rI h4 (q + 2) (va_cpy (gI h4 (o + 2)) (gI h4 (q + 2)) (ix (0 : Int32)) (ix (0 : Int32)) (ix (4 : Int32))))) (ckC (kT2 L4 T2) (kT2 L4 T) (nT2 L4 T2) (nT2 L4 T) (a := 0) (b := 0) (n := 4) rfl rfl rfl (by decide)) rfl ?_
  refine lt_geq2 (X := fun h6 : MH => mX (mE mtab d) KX9_copyFrom 20 [some (.ref q), some (.ref o)] [] h6) (a := (rI h4 (q + 2) (va_cpy (gI h4 (o + 2)) (gI h4 (q + 2)) (ix (0 : Int32)) (ix (0 : Int32)) (ix (4 : Int32))))) (a' := (rI h4 (q + 2) (va_cpy (gI h4 (o + 2)) (gI h4 (q + 2)) 0 0 4))) (cpy_lit (a := 0) (b := 0) (n := 4) rfl rfl rfl (by decide)) fun h6 eh6 => ?_
  have L6 : lay h6 := eh6 ▸ lay_rI L4 (neT2 T)
  refine mX_to 1 (k' := 21) (ls' := [some (.ref q), some (.ref o)]) (st' := [.ref o]) (h' := h6) rfl ?_
  refine mX_ckv (v := .ref (gR h6 o 3)) (v' := .ref (o + 3)) (k' := 22) (ls' := [some (.ref q), some (.ref o)]) (st' := []) (h' := h6) (kT0 L6 T2) (congrArg Value.ref (rT3 L6 T2)) rfl ?_
  refine mX_to 2 (k' := 24) (ls' := [some (.ref q), some (.ref o)]) (st' := [.ref q, .int 0, .ref (o + 3)]) (h' := h6) rfl ?_
  refine mX_ckv (v := .ref (gR h6 q 3)) (v' := .ref (q + 3)) (k' := 25) (ls' := [some (.ref q), some (.ref o)]) (st' := [.int 0, .ref (o + 3)]) (h' := h6) (kT0 L6 T) (congrArg Value.ref (rT3 L6 T)) rfl ?_
  refine mX_to 2 (k' := 27) (ls' := [some (.ref q), some (.ref o)]) (st' := [.int 4, .int 0, .ref (q + 3), .int 0, .ref (o + 3)]) (h' := h6) rfl ?_
  refine mX_ckt (k' := 28) (ls' := [some (.ref q), some (.ref o)]) (st' := []) (h' := (rI h6 (q + 3) (va_cpy (gI h6 (o + 3)) (gI h6 (q + 3)) (ix (0 : Int32)) (ix (0 : Int32)) (ix (4 : Int32))))) (ckC (kT3 L6 T2) (kT3 L6 T) (nT3 L6 T2) (nT3 L6 T) (a := 0) (b := 0) (n := 4) rfl rfl rfl (by decide)) rfl ?_
  refine lt_geq2 (X := fun h8 : MH => mX (mE mtab d) KX9_copyFrom 28 [some (.ref q), some (.ref o)] [] h8) (a := (rI h6 (q + 3) (va_cpy (gI h6 (o + 3)) (gI h6 (q + 3)) (ix (0 : Int32)) (ix (0 : Int32)) (ix (4 : Int32))))) (a' := (rI h6 (q + 3) (va_cpy (gI h6 (o + 3)) (gI h6 (q + 3)) 0 0 4))) (cpy_lit (a := 0) (b := 0) (n := 4) rfl rfl rfl (by decide)) fun h8 eh8 => ?_
  have L8 : lay h8 := eh8 ▸ lay_rI L6 (neT3 T)
  refine mX_to 1 (k' := 29) (ls' := [some (.ref q), some (.ref o)]) (st' := [.ref o]) (h' := h8) rfl ?_
  refine mX_ckv (v := .ref (gR h8 o 4)) (v' := .ref (o + 4)) (k' := 30) (ls' := [some (.ref q), some (.ref o)]) (st' := []) (h' := h8) (kT0 L8 T2) (congrArg Value.ref (rT4 L8 T2)) rfl ?_
  refine mX_to 2 (k' := 32) (ls' := [some (.ref q), some (.ref o)]) (st' := [.ref q, .int 0, .ref (o + 4)]) (h' := h8) rfl ?_
  refine mX_ckv (v := .ref (gR h8 q 4)) (v' := .ref (q + 4)) (k' := 33) (ls' := [some (.ref q), some (.ref o)]) (st' := [.int 0, .ref (o + 4)]) (h' := h8) (kT0 L8 T) (congrArg Value.ref (rT4 L8 T)) rfl ?_
  refine mX_to 2 (k' := 35) (ls' := [some (.ref q), some (.ref o)]) (st' := [.int 9, .int 0, .ref (q + 4), .int 0, .ref (o + 4)]) (h' := h8) rfl ?_
  refine mX_ckt (k' := 36) (ls' := [some (.ref q), some (.ref o)]) (st' := []) (h' := (rI h8 (q + 4) (va_cpy (gI h8 (o + 4)) (gI h8 (q + 4)) (ix (0 : Int32)) (ix (0 : Int32)) (ix (9 : Int32))))) (ckC (kT4 L8 T2) (kT4 L8 T) (nT4 L8 T2) (nT4 L8 T) (a := 0) (b := 0) (n := 9) rfl rfl rfl (by decide)) rfl ?_
  refine lt_geq2 (X := fun h10 : MH => mX (mE mtab d) KX9_copyFrom 36 [some (.ref q), some (.ref o)] [] h10) (a := (rI h8 (q + 4) (va_cpy (gI h8 (o + 4)) (gI h8 (q + 4)) (ix (0 : Int32)) (ix (0 : Int32)) (ix (9 : Int32))))) (a' := (rI h8 (q + 4) (va_cpy (gI h8 (o + 4)) (gI h8 (q + 4)) 0 0 9))) (cpy_lit (a := 0) (b := 0) (n := 9) rfl rfl rfl (by decide)) fun h10 eh10 => ?_
  have L10 : lay h10 := eh10 ▸ lay_rI L8 (neT4 T)
  refine mX_to 2 (k' := 38) (ls' := [some (.ref q), some (.ref o)]) (st' := [.ref o, .ref q]) (h' := h10) rfl ?_
  refine mX_ckv (v := .int (gI h10 o 5)) (v' := .int (gI h10 o 5)) (k' := 39) (ls' := [some (.ref q), some (.ref o)]) (st' := [.ref q]) (h' := h10) (kT0 L10 T2) rfl rfl ?_
  refine mX_ckt (k' := 40) (ls' := [some (.ref q), some (.ref o)]) (st' := []) (h' := (sI h10 q 5 (gI h10 o 5))) (kT0 L10 T) rfl ?_
  refine lt_geq2 (X := fun h12 : MH => mX (mE mtab d) KX9_copyFrom 40 [some (.ref q), some (.ref o)] [] h12) (a := (sI h10 q 5 (gI h10 o 5))) (a' := (sI h10 q 5 (gI h10 o 5))) rfl fun h12 eh12 => ?_
  have L12 : lay h12 := eh12 ▸ layI L10 (neT0 T)
  refine mX_to 2 (k' := 42) (ls' := [some (.ref q), some (.ref o)]) (st' := [.ref o, .ref q]) (h' := h12) rfl ?_
  refine mX_ckv (v := .int (gI h12 o 6)) (v' := .int (gI h12 o 6)) (k' := 43) (ls' := [some (.ref q), some (.ref o)]) (st' := [.ref q]) (h' := h12) (kT0 L12 T2) rfl rfl ?_
  refine mX_ckt (k' := 44) (ls' := [some (.ref q), some (.ref o)]) (st' := []) (h' := (sI h12 q 6 (gI h12 o 6))) (kT0 L12 T) rfl ?_
  refine lt_geq2 (X := fun h14 : MH => mX (mE mtab d) KX9_copyFrom 44 [some (.ref q), some (.ref o)] [] h14) (a := (sI h12 q 6 (gI h12 o 6))) (a' := (sI h12 q 6 (gI h12 o 6))) rfl fun h14 eh14 => ?_
  have L14 : lay h14 := eh14 ▸ layI L12 (neT0 T)
  refine mX_to 1 (k' := 45) (ls' := [some (.ref q), some (.ref o)]) (st' := [.ref o]) (h' := h14) rfl ?_
  refine mX_ckv (v := .ref (gR h14 o 7)) (v' := .ref (o + 5)) (k' := 46) (ls' := [some (.ref q), some (.ref o)]) (st' := []) (h' := h14) (kT0 L14 T2) (congrArg Value.ref (rT7 L14 T2)) rfl ?_
  refine mX_to 2 (k' := 48) (ls' := [some (.ref q), some (.ref o)]) (st' := [.ref q, .int 0, .ref (o + 5)]) (h' := h14) rfl ?_
  refine mX_ckv (v := .ref (gR h14 q 7)) (v' := .ref (q + 5)) (k' := 49) (ls' := [some (.ref q), some (.ref o)]) (st' := [.int 0, .ref (o + 5)]) (h' := h14) (kT0 L14 T) (congrArg Value.ref (rT7 L14 T)) rfl ?_
  refine mX_to 2 (k' := 51) (ls' := [some (.ref q), some (.ref o)]) (st' := [.int 30, .int 0, .ref (q + 5), .int 0, .ref (o + 5)]) (h' := h14) rfl ?_
  refine mX_ckt (k' := 52) (ls' := [some (.ref q), some (.ref o)]) (st' := []) (h' := (rI h14 (q + 5) (va_cpy (gI h14 (o + 5)) (gI h14 (q + 5)) (ix (0 : Int32)) (ix (0 : Int32)) (ix (30 : Int32))))) (ckC (kT5 L14 T2) (kT5 L14 T) (nT5 L14 T2) (nT5 L14 T) (a := 0) (b := 0) (n := 30) rfl rfl rfl (by decide)) rfl ?_
  refine lt_geq2 (X := fun h16 : MH => mX (mE mtab d) KX9_copyFrom 52 [some (.ref q), some (.ref o)] [] h16) (a := (rI h14 (q + 5) (va_cpy (gI h14 (o + 5)) (gI h14 (q + 5)) (ix (0 : Int32)) (ix (0 : Int32)) (ix (30 : Int32))))) (a' := (rI h14 (q + 5) (va_cpy (gI h14 (o + 5)) (gI h14 (q + 5)) 0 0 30))) (cpy_lit (a := 0) (b := 0) (n := 30) rfl rfl rfl (by decide)) fun h16 eh16 => ?_
  have L16 : lay h16 := eh16 ▸ lay_rI L14 (neT5 T)
  refine mX_to 2 (k' := 54) (ls' := [some (.ref q), some (.ref o)]) (st' := [.ref o, .ref q]) (h' := h16) rfl ?_
  refine mX_ckv (v := .int (gI h16 o 8)) (v' := .int (gI h16 o 8)) (k' := 55) (ls' := [some (.ref q), some (.ref o)]) (st' := [.ref q]) (h' := h16) (kT0 L16 T2) rfl rfl ?_
  refine mX_ckt (k' := 56) (ls' := [some (.ref q), some (.ref o)]) (st' := []) (h' := (sI h16 q 8 (gI h16 o 8))) (kT0 L16 T) rfl ?_
  refine lt_geq2 (X := fun h18 : MH => mX (mE mtab d) KX9_copyFrom 56 [some (.ref q), some (.ref o)] [] h18) (a := (sI h16 q 8 (gI h16 o 8))) (a' := (sI h16 q 8 (gI h16 o 8))) rfl fun h18 eh18 => ?_
  have L18 : lay h18 := eh18 ▸ layI L16 (neT0 T)
  refine mX_to 2 (k' := 58) (ls' := [some (.ref q), some (.ref o)]) (st' := [.ref o, .ref q]) (h' := h18) rfl ?_
  refine mX_ckv (v := .ref (gR h18 o 9)) (v' := .ref (gR h18 o 9)) (k' := 59) (ls' := [some (.ref q), some (.ref o)]) (st' := [.ref q]) (h' := h18) (kT0 L18 T2) rfl rfl ?_
  refine mX_ckt (k' := 60) (ls' := [some (.ref q), some (.ref o)]) (st' := []) (h' := (sR h18 q 9 (gR h18 o 9))) (kT0 L18 T) rfl ?_
  refine lt_geq2 (X := fun h20 : MH => mX (mE mtab d) KX9_copyFrom 60 [some (.ref q), some (.ref o)] [] h20) (a := (sR h18 q 9 (gR h18 o 9))) (a' := (sR h18 q 9 (gR h18 o 9))) rfl fun h20 eh20 => ?_
  have L20 : lay h20 := eh20 ▸ layRT L18 T
  exact mX_ret rfl
theorem S_X10_foretold_21 {h : MH} (L : lay h) (d : Nat) (l1 : Int32) (l2 : Int32) (l3 : Int32) : G_X10_foretold_21 d l1 l2 l3 h = (if l3 < l1 then (if (gI h 43 5) < 9999 then cI (F_X9_passHour d 43 h) (fun x7 h6 => G_X10_foretold_21 d l1 l2 (l3 + 1) h6) else G_X10_foretold_35 d l1 l2 l3 h) else G_X10_foretold_35 d l1 l2 l3 h) := by
  refine mX_to 2 (k' := 23) (ls' := [some (.ref 8), some (.int l1), some (.int l2), some (.int l3)]) (st' := [.int l1, .int l3]) (h' := h) rfl ?_
  refine mX_br (t := 24) (f := 35) (ls' := [some (.ref 8), some (.int l1), some (.int l2), some (.int l3)]) (st' := []) (h' := h) rfl ?_ ?_
  · refine mX_to 1 (k' := 25) (ls' := [some (.ref 8), some (.int l1), some (.int l2), some (.int l3)]) (st' := [.ref 8]) (h' := h) rfl ?_
    refine mX_ckv (v := .ref (gR h 8 2)) (v' := .ref 43) (k' := 26) (ls' := [some (.ref 8), some (.int l1), some (.int l2), some (.int l3)]) (st' := []) (h' := h) (k_8 L) (congrArg Value.ref (r_8_2 L)) rfl ?_
    refine mX_ckv (v := .int (gI h 43 5)) (v' := .int (gI h 43 5)) (k' := 27) (ls' := [some (.ref 8), some (.int l1), some (.int l2), some (.int l3)]) (st' := []) (h' := h) (k_43 L) rfl rfl ?_
    refine mX_to 1 (k' := 28) (ls' := [some (.ref 8), some (.int l1), some (.int l2), some (.int l3)]) (st' := [.int 9999, .int (gI h 43 5)]) (h' := h) rfl ?_
    refine mX_br (t := 29) (f := 35) (ls' := [some (.ref 8), some (.int l1), some (.int l2), some (.int l3)]) (st' := []) (h' := h) rfl ?_ ?_
    · refine mX_to 1 (k' := 30) (ls' := [some (.ref 8), some (.int l1), some (.int l2), some (.int l3)]) (st' := [.ref 8]) (h' := h) rfl ?_
      refine mX_ckv (v := .ref (gR h 8 2)) (v' := .ref 43) (k' := 31) (ls' := [some (.ref 8), some (.int l1), some (.int l2), some (.int l3)]) (st' := []) (h' := h) (k_8 L) (congrArg Value.ref (r_8_2 L)) rfl ?_
      refine mX_ckct (m := mcl (mE mtab d 191 [.ref 43] h) 1 32 [some (.ref 8), some (.int l1), some (.int l2), some (.int l3)] []) (k_43 L) rfl ?_
      refine mk_cIe (o := F_X9_passHour d 43 h) ?_
      intro x7 h6 eh6
      have L6 : lay h6 := lay_call d 191 [.ref 43] h _ h6 rfl eh6 L
      refine mX_to 3 (k' := 21) (ls' := [some (.ref 8), some (.int l1), some (.int l2), some (.int (l3 + 1))]) (st' := []) (h' := h6) rfl ?_
      rfl
    · rfl
  · rfl
theorem S_X10_foretold_35 {h : MH} (L : lay h) (d : Nat) (l1 : Int32) (l2 : Int32) (l3 : Int32) : G_X10_foretold_35 d l1 l2 l3 h = ck (ib l2 4) (some (.int (gI h 45 (ix l2)), h)) := by
  refine mX_to 1 (k' := 36) (ls' := [some (.ref 8), some (.int l1), some (.int l2), some (.int l3)]) (st' := [.ref 8]) (h' := h) rfl ?_
  refine mX_ckv (v := .ref (gR h 8 2)) (v' := .ref 43) (k' := 37) (ls' := [some (.ref 8), some (.int l1), some (.int l2), some (.int l3)]) (st' := []) (h' := h) (k_8 L) (congrArg Value.ref (r_8_2 L)) rfl ?_
  refine mX_ckv (v := .ref (gR h 43 2)) (v' := .ref 45) (k' := 38) (ls' := [some (.ref 8), some (.int l1), some (.int l2), some (.int l3)]) (st' := []) (h' := h) (k_43 L) (congrArg Value.ref (r_43_2 L)) rfl ?_
  refine mX_to 1 (k' := 39) (ls' := [some (.ref 8), some (.int l1), some (.int l2), some (.int l3)]) (st' := [.int l2, .ref 45]) (h' := h) rfl ?_
  refine mX_ckw (v := .int (gI h 45 (ix l2))) (v' := .int (gI h 45 (ix l2))) (k' := 40) (ls' := [some (.ref 8), some (.int l1), some (.int l2), some (.int l3)]) (st' := []) (h' := h) (ckA1 (k_45 L) (n_45 L)) rfl rfl fun c8 => ?_
  exact mX_reti rfl
theorem S_X10_foretold {h : MH} (L : lay h) (d : Nat) (a1 : Int32) (a2 : Int32) : F_X10_foretold (d + 1) a1 a2 h = cI (F_X10_within d a1 1 60 h) (fun x2 h1 => (if x2 = 0 then some (.int (-1), h1) else cI (F_X9_has d 10 a2 h1) (fun x4 h3 => (if x4 = 0 then some (.int (-1), h3) else cV (F_X9_copyFrom d 43 10 h3) (fun h5 => G_X10_foretold_21 d a1 a2 0 h5))))) := by
  refine mE_eq (q := (yX10_foretold, cX10_foretold, 4, (some .int), KX10_foretold)) (C := KX10_foretold) (ls := [some (.ref 8), some (.int a1), some (.int a2), none]) rfl rfl rfl rfl ?_
  refine mX_to 3 (k' := 3) (ls' := [some (.ref 8), some (.int a1), some (.int a2), none]) (st' := [.int 60, .int 1, .int a1]) (h' := h) rfl ?_
  refine mX_cIe (o := F_X10_within d a1 1 60 h) (k' := 4) (ls' := [some (.ref 8), some (.int a1), some (.int a2), none]) (st' := []) rfl ?_
  intro x2 h1 eh1
  have L1 : lay h1 := lay_call d 11 [.int a1, .int 1, .int 60] h _ h1 rfl eh1 L
  refine mX_br (t := 11) (f := 5) (ls' := [some (.ref 8), some (.int a1), some (.int a2), none]) (st' := []) (h' := h1) rfl ?_ ?_
  · refine mX_to 1 (k' := 12) (ls' := [some (.ref 8), some (.int a1), some (.int a2), none]) (st' := [.int (-1)]) (h' := h1) rfl ?_
    exact mX_reti rfl
  · refine mX_to 1 (k' := 6) (ls' := [some (.ref 8), some (.int a1), some (.int a2), none]) (st' := [.ref 8]) (h' := h1) rfl ?_
    refine mX_ckv (v := .ref (gR h1 8 0)) (v' := .ref 9) (k' := 7) (ls' := [some (.ref 8), some (.int a1), some (.int a2), none]) (st' := []) (h' := h1) (k_8 L1) (congrArg Value.ref (r_8_0 L1)) rfl ?_
    refine mX_ckv (v := .ref (gR h1 9 0)) (v' := .ref 10) (k' := 8) (ls' := [some (.ref 8), some (.int a1), some (.int a2), none]) (st' := []) (h' := h1) (k_9 L1) (congrArg Value.ref (r_9_0 L1)) rfl ?_
    refine mX_to 1 (k' := 9) (ls' := [some (.ref 8), some (.int a1), some (.int a2), none]) (st' := [.int a2, .ref 10]) (h' := h1) rfl ?_
    refine mX_ckct (m := mcl (mE mtab d 17 [.ref 10, .int a2] h1) 1 10 [some (.ref 8), some (.int a1), some (.int a2), none] []) (k_10 L1) rfl ?_
    refine mk_cIe (o := F_X9_has d 10 a2 h1) ?_
    intro x4 h3 eh3
    have L3 : lay h3 := lay_call d 17 [.ref 10, .int a2] h1 _ h3 rfl eh3 L1
    refine mX_br (t := 11) (f := 13) (ls' := [some (.ref 8), some (.int a1), some (.int a2), none]) (st' := []) (h' := h3) rfl ?_ ?_
    · refine mX_to 1 (k' := 12) (ls' := [some (.ref 8), some (.int a1), some (.int a2), none]) (st' := [.int (-1)]) (h' := h3) rfl ?_
      exact mX_reti rfl
    · refine mX_to 1 (k' := 14) (ls' := [some (.ref 8), some (.int a1), some (.int a2), none]) (st' := [.ref 8]) (h' := h3) rfl ?_
      refine mX_ckv (v := .ref (gR h3 8 2)) (v' := .ref 43) (k' := 15) (ls' := [some (.ref 8), some (.int a1), some (.int a2), none]) (st' := []) (h' := h3) (k_8 L3) (congrArg Value.ref (r_8_2 L3)) rfl ?_
      refine mX_to 1 (k' := 16) (ls' := [some (.ref 8), some (.int a1), some (.int a2), none]) (st' := [.ref 8, .ref 43]) (h' := h3) rfl ?_
      refine mX_ckv (v := .ref (gR h3 8 0)) (v' := .ref 9) (k' := 17) (ls' := [some (.ref 8), some (.int a1), some (.int a2), none]) (st' := [.ref 43]) (h' := h3) (k_8 L3) (congrArg Value.ref (r_8_0 L3)) rfl ?_
      refine mX_ckv (v := .ref (gR h3 9 0)) (v' := .ref 10) (k' := 18) (ls' := [some (.ref 8), some (.int a1), some (.int a2), none]) (st' := [.ref 43]) (h' := h3) (k_9 L3) (congrArg Value.ref (r_9_0 L3)) rfl ?_
      refine mX_ckct (m := mcl (mE mtab d 225 [.ref 43, .ref 10] h3) 0 19 [some (.ref 8), some (.int a1), some (.int a2), none] []) (k_43 L3) rfl ?_
      refine mk_cVe (o := F_X9_copyFrom d 43 10 h3) ?_
      intro wh5 h5 eh5
      have L5 : lay h5 := lay_call d 225 [.ref 43, .ref 10] h3 _ h5 rfl eh5 L3
      refine mX_to 2 (k' := 21) (ls' := [some (.ref 8), some (.int a1), some (.int a2), some (.int 0)]) (st' := []) (h' := h5) rfl ?_
      rfl
