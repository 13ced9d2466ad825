--deps:19.lay 21.facts 22.00.names
/-! EQUATIONS over the fixed cells (written by wip/gen/sgen.py) -/
theorem S_X1_winningFirst_2 {h : MH} (L : lay h) (d : Nat) (l1 : Int32) : G_X1_winningFirst_2 d l1 h = (if l1 < 4 then cI (F_X1_canLeave d (gI h 63 4) l1 h) (fun x2 h1 => (if x2 = 0 then G_X1_winningFirst_23 d l1 h1 else ck (ib ((gI h1 63 4) - (1 <<< (l1 &&& 31))) 16) ((if (gI h1 66 (ix ((gI h1 63 4) - (1 <<< (l1 &&& 31))))) = 0 then some (.int l1, h1) else G_X1_winningFirst_23 d l1 h1)))) else some (.int (-1), h)) := by
  refine mX_to 2 (k' := 4) (ls' := [some (.ref 63), some (.int l1)]) (st' := [.int 4, .int l1]) (h' := h) rfl ?_
  refine mX_br (t := 5) (f := 25) (ls' := [some (.ref 63), some (.int l1)]) (st' := []) (h' := h) rfl ?_ ?_
  · refine mX_to 2 (k' := 7) (ls' := [some (.ref 63), some (.int l1)]) (st' := [.ref 63, .ref 63]) (h' := h) rfl ?_
    refine mX_ckv (v := .int (gI h 63 4)) (v' := .int (gI h 63 4)) (k' := 8) (ls' := [some (.ref 63), some (.int l1)]) (st' := [.ref 63]) (h' := h) (k_63 L) rfl rfl ?_
    refine mX_to 1 (k' := 9) (ls' := [some (.ref 63), some (.int l1)]) (st' := [.int l1, .int (gI h 63 4), .ref 63]) (h' := h) rfl ?_
    refine mX_ckct (m := mcl (mE mtab d 276 [.ref 63, .int (gI h 63 4), .int l1] h) 1 10 [some (.ref 63), some (.int l1)] []) (k_63 L) rfl ?_
    refine mk_cIe (o := F_X1_canLeave d (gI h 63 4) l1 h) ?_
    intro x2 h1 eh1
    have L1 : lay h1 := lay_call d 276 [.ref 63, .int (gI h 63 4), .int l1] h _ h1 rfl eh1 L
    refine mX_br (t := 23) (f := 11) (ls' := [some (.ref 63), some (.int l1)]) (st' := []) (h' := h1) rfl ?_ ?_
    · rfl
    · refine mX_to 1 (k' := 12) (ls' := [some (.ref 63), some (.int l1)]) (st' := [.ref 63]) (h' := h1) rfl ?_
      refine mX_ckv (v := .ref (gR h1 63 2)) (v' := .ref 66) (k' := 13) (ls' := [some (.ref 63), some (.int l1)]) (st' := []) (h' := h1) (k_63 L1) (congrArg Value.ref (r_63_2 L1)) rfl ?_
      refine mX_to 1 (k' := 14) (ls' := [some (.ref 63), some (.int l1)]) (st' := [.ref 63, .ref 66]) (h' := h1) rfl ?_
      refine mX_ckv (v := .int (gI h1 63 4)) (v' := .int (gI h1 63 4)) (k' := 15) (ls' := [some (.ref 63), some (.int l1)]) (st' := [.ref 66]) (h' := h1) (k_63 L1) rfl rfl ?_
      refine mX_to 4 (k' := 19) (ls' := [some (.ref 63), some (.int l1)]) (st' := [.int ((gI h1 63 4) - (1 <<< (l1 &&& 31))), .ref 66]) (h' := h1) rfl ?_
      refine mX_ckw (v := .int (gI h1 66 (ix ((gI h1 63 4) - (1 <<< (l1 &&& 31)))))) (v' := .int (gI h1 66 (ix ((gI h1 63 4) - (1 <<< (l1 &&& 31)))))) (k' := 20) (ls' := [some (.ref 63), some (.int l1)]) (st' := []) (h' := h1) (ckA1 (k_66 L1) (n_66 L1)) rfl rfl fun c3 => ?_
      refine mX_br (t := 21) (f := 23) (ls' := [some (.ref 63), some (.int l1)]) (st' := []) (h' := h1) rfl ?_ ?_
      · refine mX_to 1 (k' := 22) (ls' := [some (.ref 63), some (.int l1)]) (st' := [.int l1]) (h' := h1) rfl ?_
        exact mX_reti rfl
      · rfl
  · refine mX_to 1 (k' := 26) (ls' := [some (.ref 63), some (.int l1)]) (st' := [.int (-1)]) (h' := h) rfl ?_
    exact mX_reti rfl
theorem S_X1_winningFirst_23 {h : MH} (L : lay h) (d : Nat) (l1 : Int32) : G_X1_winningFirst_23 d l1 h = G_X1_winningFirst_2 d (l1 + 1) h := by
  refine mX_to 2 (k' := 2) (ls' := [some (.ref 63), some (.int (l1 + 1))]) (st' := []) (h' := h) rfl ?_
  rfl
theorem S_X1_winningFirst {h : MH} (L : lay h) (d : Nat) : F_X1_winningFirst (d + 1) h = G_X1_winningFirst_2 d 0 h := by
  refine mE_eq (q := (yX1_winningFirst, cX1_winningFirst, 2, (some .int), KX1_winningFirst)) (C := KX1_winningFirst) (ls := [some (.ref 63), none]) rfl rfl rfl rfl ?_
  refine mX_to 2 (k' := 2) (ls' := [some (.ref 63), some (.int 0)]) (st' := []) (h' := h) rfl ?_
  rfl
theorem S_X10_quarrel {h : MH} (L : lay h) (d : Nat) (a1 : Int32) : F_X10_quarrel (d + 1) a1 h = cV (F_X1_weigh d h) (fun h1 => cI (F_X1_winningFirst d h1) (fun x3 h2 => (if a1 = 0 then (if x3 = (-1) then some (.int 0, h2) else some (.int 1, h2)) else some (.int x3, h2)))) := by
  refine mE_eq (q := (yX10_quarrel, cX10_quarrel, 3, (some .int), KX10_quarrel)) (C := KX10_quarrel) (ls := [some (.ref 8), some (.int a1), none]) rfl rfl rfl rfl ?_
  refine mX_to 1 (k' := 1) (ls' := [some (.ref 8), some (.int a1), none]) (st' := [.ref 8]) (h' := h) rfl ?_
  refine mX_ckv (v := .ref (gR h 8 6)) (v' := .ref 63) (k' := 2) (ls' := [some (.ref 8), some (.int a1), none]) (st' := []) (h' := h) (k_8 L) (congrArg Value.ref (r_8_6 L)) rfl ?_
  refine mX_to 1 (k' := 3) (ls' := [some (.ref 8), some (.int a1), none]) (st' := [.ref 8, .ref 63]) (h' := h) rfl ?_
  refine mX_ckv (v := .ref (gR h 8 0)) (v' := .ref 9) (k' := 4) (ls' := [some (.ref 8), some (.int a1), none]) (st' := [.ref 63]) (h' := h) (k_8 L) (congrArg Value.ref (r_8_0 L)) rfl ?_
  refine mX_ckv (v := .ref (gR h 9 0)) (v' := .ref 10) (k' := 5) (ls' := [some (.ref 8), some (.int a1), none]) (st' := [.ref 63]) (h' := h) (k_9 L) (congrArg Value.ref (r_9_0 L)) rfl ?_
  refine mX_ckct (m := mcl (mE mtab d 278 [.ref 63, .ref 10] h) 0 6 [some (.ref 8), some (.int a1), none] []) (k_63 L) rfl ?_
  refine mk_cVe (o := F_X1_weigh d h) ?_
  intro wh1 h1 eh1
  have L1 : lay h1 := lay_call d 278 [.ref 63, .ref 10] h _ h1 rfl eh1 L
  refine mX_to 1 (k' := 7) (ls' := [some (.ref 8), some (.int a1), none]) (st' := [.ref 8]) (h' := h1) rfl ?_
  refine mX_ckv (v := .ref (gR h1 8 6)) (v' := .ref 63) (k' := 8) (ls' := [some (.ref 8), some (.int a1), none]) (st' := []) (h' := h1) (k_8 L1) (congrArg Value.ref (r_8_6 L1)) rfl ?_
  refine mX_ckct (m := mcl (mE mtab d 279 [.ref 63] h1) 1 9 [some (.ref 8), some (.int a1), none] []) (k_63 L1) rfl ?_
  refine mk_cIe (o := F_X1_winningFirst d h1) ?_
  intro x3 h2 eh2
  have L2 : lay h2 := lay_call d 279 [.ref 63] h1 _ h2 rfl eh2 L1
  refine mX_to 2 (k' := 11) (ls' := [some (.ref 8), some (.int a1), some (.int x3)]) (st' := [.int a1]) (h' := h2) rfl ?_
  refine mX_br (t := 14) (f := 12) (ls' := [some (.ref 8), some (.int a1), some (.int x3)]) (st' := []) (h' := h2) rfl ?_ ?_
  · refine mX_to 2 (k' := 16) (ls' := [some (.ref 8), some (.int a1), some (.int x3)]) (st' := [.int (-1), .int x3]) (h' := h2) rfl ?_
    refine mX_br (t := 17) (f := 19) (ls' := [some (.ref 8), some (.int a1), some (.int x3)]) (st' := []) (h' := h2) rfl ?_ ?_
    · refine mX_to 2 (k' := 20) (ls' := [some (.ref 8), some (.int a1), some (.int x3)]) (st' := [.int 0]) (h' := h2) rfl ?_
      exact mX_reti rfl
    · refine mX_to 1 (k' := 20) (ls' := [some (.ref 8), some (.int a1), some (.int x3)]) (st' := [.int 1]) (h' := h2) rfl ?_
      exact mX_reti rfl
  · refine mX_to 1 (k' := 13) (ls' := [some (.ref 8), some (.int a1), some (.int x3)]) (st' := [.int x3]) (h' := h2) rfl ?_
    exact mX_reti rfl
theorem S_X11_canLeave {h : MH} (L : lay h) (d : Nat) (a1 : Int32) (a2 : Int32) (a3 : Int32) : F_X11_canLeave (d + 1) a1 a2 a3 h = cI (F_X11_has d a1 a2 h) (fun x2 h1 => (if x2 = 0 then some (.int 0, h1) else cI (F_X11_tipOf d (a1 &&& ((1 <<< (a2 &&& 31)) ^^^ (-1))) h1) (fun x4 h3 => cI (F_X11_size d x4 h3) (fun x6 h5 => (if x6 ≤ a3 then some (.int 1, h5) else some (.int 0, h5)))))) := by
  refine mE_eq (q := (yX11_canLeave, cX11_canLeave, 4, (some .boolean), KX11_canLeave)) (C := KX11_canLeave) (ls := [some (.ref 67), some (.int a1), some (.int a2), some (.int a3)]) rfl rfl rfl rfl ?_
  refine mX_to 2 (k' := 2) (ls' := [some (.ref 67), some (.int a1), some (.int a2), some (.int a3)]) (st' := [.int a2, .int a1]) (h' := h) rfl ?_
  refine mX_cIe (o := F_X11_has d a1 a2 h) (k' := 3) (ls' := [some (.ref 67), some (.int a1), some (.int a2), some (.int a3)]) (st' := []) rfl ?_
  intro x2 h1 eh1
  have L1 : lay h1 := lay_call d 108 [.int a1, .int a2] h _ h1 rfl eh1 L
  refine mX_br (t := 18) (f := 4) (ls' := [some (.ref 67), some (.int a1), some (.int a2), some (.int a3)]) (st' := []) (h' := h1) rfl ?_ ?_
  · refine mX_to 1 (k' := 19) (ls' := [some (.ref 67), some (.int a1), some (.int a2), some (.int a3)]) (st' := [.int 0]) (h' := h1) rfl ?_
    exact mX_retb (by decide) rfl
  · refine mX_to 8 (k' := 12) (ls' := [some (.ref 67), some (.int a1), some (.int a2), some (.int a3)]) (st' := [.int (a1 &&& ((1 <<< (a2 &&& 31)) ^^^ (-1))), .ref 67]) (h' := h1) rfl ?_
    refine mX_ckct (m := mcl (mE mtab d 155 [.ref 67, .int (a1 &&& ((1 <<< (a2 &&& 31)) ^^^ (-1)))] h1) 1 13 [some (.ref 67), some (.int a1), some (.int a2), some (.int a3)] []) (k_67 L1) rfl ?_
    refine mk_cIe (o := F_X11_tipOf d (a1 &&& ((1 <<< (a2 &&& 31)) ^^^ (-1))) h1) ?_
    intro x4 h3 eh3
    have L3 : lay h3 := lay_call d 155 [.ref 67, .int (a1 &&& ((1 <<< (a2 &&& 31)) ^^^ (-1)))] h1 _ h3 rfl eh3 L1
    refine mX_cIe (o := F_X11_size d x4 h3) (k' := 14) (ls' := [some (.ref 67), some (.int a1), some (.int a2), some (.int a3)]) (st' := []) rfl ?_
    intro x6 h5 eh5
    have L5 : lay h5 := lay_call d 157 [.int x4] h3 _ h5 rfl eh5 L3
    refine mX_to 1 (k' := 15) (ls' := [some (.ref 67), some (.int a1), some (.int a2), some (.int a3)]) (st' := [.int a3, .int x6]) (h' := h5) rfl ?_
    refine mX_br (t := 16) (f := 18) (ls' := [some (.ref 67), some (.int a1), some (.int a2), some (.int a3)]) (st' := []) (h' := h5) rfl ?_ ?_
    · refine mX_to 2 (k' := 19) (ls' := [some (.ref 67), some (.int a1), some (.int a2), some (.int a3)]) (st' := [.int 1]) (h' := h5) rfl ?_
      exact mX_retb (by decide) rfl
    · refine mX_to 1 (k' := 19) (ls' := [some (.ref 67), some (.int a1), some (.int a2), some (.int a3)]) (st' := [.int 0]) (h' := h5) rfl ?_
      exact mX_retb (by decide) rfl
theorem S_X11_layLeaving_5 {h : MH} (L : lay h) (d : Nat) (l1 : Int32) (l2 : Int32) (o3 : Option Value) : G_X11_layLeaving_5 d l1 l2 o3 h = cI (F_X11_everyone d h) (fun x4 h3 => (if l2 ≤ x4 then ck (ib l2 16) (lt_ (sI h3 82 (ix l2) 0) fun h6 => (if l2 = 0 then G_X11_layLeaving_22 d l1 l2 (o3) 1 l2 h6 else G_X11_layLeaving_22 d l1 l2 (o3) 0 l2 h6)) else some (.int 0, h3))) := by
  refine mX_to 2 (k' := 7) (ls' := [some (.ref 67), some (.int l1), some (.int l2), o3]) (st' := [.ref 67, .int l2]) (h' := h) rfl ?_
  refine mX_ckct (m := mcl (mE mtab d 154 [.ref 67] h) 1 8 [some (.ref 67), some (.int l1), some (.int l2), o3] [.int l2]) (k_67 L) rfl ?_
  refine mk_cIe (o := F_X11_everyone d h) ?_
  intro x4 h3 eh3
  have L3 : lay h3 := lay_call d 154 [.ref 67] h _ h3 rfl eh3 L
  refine mX_br (t := 9) (f := 80) (ls' := [some (.ref 67), some (.int l1), some (.int l2), o3]) (st' := []) (h' := h3) rfl ?_ ?_
  · refine mX_to 1 (k' := 10) (ls' := [some (.ref 67), some (.int l1), some (.int l2), o3]) (st' := [.ref 67]) (h' := h3) rfl ?_
    refine mX_ckv (v := .ref (gR h3 67 31)) (v' := .ref 82) (k' := 11) (ls' := [some (.ref 67), some (.int l1), some (.int l2), o3]) (st' := []) (h' := h3) (k_67 L3) (congrArg Value.ref (r_67_31 L3)) rfl ?_
    refine mX_to 2 (k' := 13) (ls' := [some (.ref 67), some (.int l1), some (.int l2), o3]) (st' := [.int 0, .int l2, .ref 82]) (h' := h3) rfl ?_
    refine mX_cki (k' := 14) (ls' := [some (.ref 67), some (.int l1), some (.int l2), o3]) (st' := []) (h' := (sI h3 82 (ix l2) 0)) (ckA4 (k_82 L3) (n_82 L3) (by decide)) rfl fun c5 => ?_
    refine lt_geq2 (X := fun h6 : MH => mX (mE mtab d) KX11_layLeaving 14 [some (.ref 67), some (.int l1), some (.int l2), o3] [] h6) (a := (sI h3 82 (ix l2) 0)) (a' := (sI h3 82 (ix l2) 0)) rfl fun h6 eh6 => ?_
    have L6 : lay h6 := eh6 ▸ layI L3 (by decide)
    refine mX_to 1 (k' := 15) (ls' := [some (.ref 67), some (.int l1), some (.int l2), o3]) (st' := [.ref 67]) (h' := h6) rfl ?_
    refine mX_ckv (v := .ref (gR h6 67 32)) (v' := .ref 83) (k' := 16) (ls' := [some (.ref 67), some (.int l1), some (.int l2), o3]) (st' := []) (h' := h6) (k_67 L6) (congrArg Value.ref (r_67_32 L6)) rfl ?_
    refine mX_to 2 (k' := 18) (ls' := [some (.ref 67), some (.int l1), some (.int l2), o3]) (st' := [.int l2, .int l2, .ref 83]) (h' := h6) rfl ?_
    refine mX_br (t := 19) (f := 21) (ls' := [some (.ref 67), some (.int l1), some (.int l2), o3]) (st' := [.int l2, .ref 83]) (h' := h6) rfl ?_ ?_
    · refine mX_to 2 (k' := 22) (ls' := [some (.ref 67), some (.int l1), some (.int l2), o3]) (st' := [.long 1, .int l2, .ref 83]) (h' := h6) rfl ?_
      rfl
    · refine mX_to 1 (k' := 22) (ls' := [some (.ref 67), some (.int l1), some (.int l2), o3]) (st' := [.long 0, .int l2, .ref 83]) (h' := h6) rfl ?_
      rfl
  · exact mX_ret rfl
theorem S_X11_layLeaving_22 {h : MH} (L : lay h) (d : Nat) (l1 : Int32) (l2 : Int32) (o3 : Option Value) (s0 : Int64) (s1 : Int32) : G_X11_layLeaving_22 d l1 l2 o3 s0 s1 h = ck (ib s1 16) (lt_ (sL h 83 (ix s1) s0) fun h8 => G_X11_layLeaving_25 d l1 l2 0 h8) := by
  refine mX_cki (k' := 23) (ls' := [some (.ref 67), some (.int l1), some (.int l2), o3]) (st' := []) (h' := (sL h 83 (ix s1) s0)) (ckA0 (k_83 L) (n_83 L)) rfl fun c7 => ?_
  refine lt_geq2 (X := fun h8 : MH => mX (mE mtab d) KX11_layLeaving 23 [some (.ref 67), some (.int l1), some (.int l2), o3] [] h8) (a := (sL h 83 (ix s1) s0)) (a' := (sL h 83 (ix s1) s0)) rfl fun h8 eh8 => ?_
  have L8 : lay h8 := eh8 ▸ layL L
  refine mX_to 2 (k' := 25) (ls' := [some (.ref 67), some (.int l1), some (.int l2), some (.int 0)]) (st' := []) (h' := h8) rfl ?_
  rfl
theorem S_X11_layLeaving_25 {h : MH} (L : lay h) (d : Nat) (l1 : Int32) (l2 : Int32) (l3 : Int32) : G_X11_layLeaving_25 d l1 l2 l3 h = (if l3 < (gI h 68 0) then cI (F_X11_canLeave d l2 l3 l1 h) (fun x10 h9 => (if x10 = 0 then G_X11_layLeaving_76 d l1 l2 l3 h9 else ck (ib l2 16) (ck (ib (l2 &&& ((1 <<< (l3 &&& 31)) ^^^ (-1))) 16) ((if (gI h9 82 (ix (l2 &&& ((1 <<< (l3 &&& 31)) ^^^ (-1))))) = 0 then G_X11_layLeaving_57 d l1 l2 l3 1 (gI h9 82 (ix l2)) l2 h9 else G_X11_layLeaving_57 d l1 l2 l3 0 (gI h9 82 (ix l2)) l2 h9))))) else G_X11_layLeaving_5 d l1 (l2 + 1) (some (.int l3)) h) := by
  refine mX_to 2 (k' := 27) (ls' := [some (.ref 67), some (.int l1), some (.int l2), some (.int l3)]) (st' := [.ref 67, .int l3]) (h' := h) rfl ?_
  refine mX_ckv (v := .ref (gR h 67 0)) (v' := .ref 68) (k' := 28) (ls' := [some (.ref 67), some (.int l1), some (.int l2), some (.int l3)]) (st' := [.int l3]) (h' := h) (k_67 L) (congrArg Value.ref (r_67_0 L)) rfl ?_
  refine mX_to 1 (k' := 29) (ls' := [some (.ref 67), some (.int l1), some (.int l2), some (.int l3)]) (st' := [.int 0, .ref 68, .int l3]) (h' := h) rfl ?_
  refine mX_ckv (v := .int (gI h 68 (ix (0 : Int32)))) (v' := .int (gI h 68 0)) (k' := 30) (ls' := [some (.ref 67), some (.int l1), some (.int l2), some (.int l3)]) (st' := [.int l3]) (h' := h) ((ckA1 (k_68 L) (n_68 L)).mpr (ib_lit (n := 0) rfl (by decide) (by decide))) (congrArg (fun j => Value.int (gI h 68 j)) (ix_lit (n := 0) rfl (by decide))) rfl ?_
  refine mX_br (t := 31) (f := 78) (ls' := [some (.ref 67), some (.int l1), some (.int l2), some (.int l3)]) (st' := []) (h' := h) rfl ?_ ?_
  · refine mX_to 4 (k' := 35) (ls' := [some (.ref 67), some (.int l1), some (.int l2), some (.int l3)]) (st' := [.int l1, .int l3, .int l2, .ref 67]) (h' := h) rfl ?_
    refine mX_ckct (m := mcl (mE mtab d 281 [.ref 67, .int l2, .int l3, .int l1] h) 1 36 [some (.ref 67), some (.int l1), some (.int l2), some (.int l3)] []) (k_67 L) rfl ?_
    refine mk_cIe (o := F_X11_canLeave d l2 l3 l1 h) ?_
    intro x10 h9 eh9
    have L9 : lay h9 := lay_call d 281 [.ref 67, .int l2, .int l3, .int l1] h _ h9 rfl eh9 L
    refine mX_br (t := 37) (f := 38) (ls' := [some (.ref 67), some (.int l1), some (.int l2), some (.int l3)]) (st' := []) (h' := h9) rfl ?_ ?_
    · refine mX_to 1 (k' := 76) (ls' := [some (.ref 67), some (.int l1), some (.int l2), some (.int l3)]) (st' := []) (h' := h9) rfl ?_
      rfl
    · refine mX_to 1 (k' := 39) (ls' := [some (.ref 67), some (.int l1), some (.int l2), some (.int l3)]) (st' := [.ref 67]) (h' := h9) rfl ?_
      refine mX_ckv (v := .ref (gR h9 67 31)) (v' := .ref 82) (k' := 40) (ls' := [some (.ref 67), some (.int l1), some (.int l2), some (.int l3)]) (st' := []) (h' := h9) (k_67 L9) (congrArg Value.ref (r_67_31 L9)) rfl ?_
      refine mX_to 2 (k' := 42) (ls' := [some (.ref 67), some (.int l1), some (.int l2), some (.int l3)]) (st' := [.int l2, .ref 82, .int l2, .ref 82]) (h' := h9) rfl ?_
      refine mX_ckw (v := .int (gI h9 82 (ix l2))) (v' := .int (gI h9 82 (ix l2))) (k' := 43) (ls' := [some (.ref 67), some (.int l1), some (.int l2), some (.int l3)]) (st' := [.int l2, .ref 82]) (h' := h9) (ckA1 (k_82 L9) (n_82 L9)) rfl rfl fun c12 => ?_
      refine mX_to 1 (k' := 44) (ls' := [some (.ref 67), some (.int l1), some (.int l2), some (.int l3)]) (st' := [.ref 67, .int (gI h9 82 (ix l2)), .int l2, .ref 82]) (h' := h9) rfl ?_
      refine mX_ckv (v := .ref (gR h9 67 31)) (v' := .ref 82) (k' := 45) (ls' := [some (.ref 67), some (.int l1), some (.int l2), some (.int l3)]) (st' := [.int (gI h9 82 (ix l2)), .int l2, .ref 82]) (h' := h9) (k_67 L9) (congrArg Value.ref (r_67_31 L9)) rfl ?_
      refine mX_to 7 (k' := 52) (ls' := [some (.ref 67), some (.int l1), some (.int l2), some (.int l3)]) (st' := [.int (l2 &&& ((1 <<< (l3 &&& 31)) ^^^ (-1))), .ref 82, .int (gI h9 82 (ix l2)), .int l2, .ref 82]) (h' := h9) rfl ?_
      refine mX_ckw (v := .int (gI h9 82 (ix (l2 &&& ((1 <<< (l3 &&& 31)) ^^^ (-1)))))) (v' := .int (gI h9 82 (ix (l2 &&& ((1 <<< (l3 &&& 31)) ^^^ (-1)))))) (k' := 53) (ls' := [some (.ref 67), some (.int l1), some (.int l2), some (.int l3)]) (st' := [.int (gI h9 82 (ix l2)), .int l2, .ref 82]) (h' := h9) (ckA1 (k_82 L9) (n_82 L9)) rfl rfl fun c11 => ?_
      refine mX_br (t := 54) (f := 56) (ls' := [some (.ref 67), some (.int l1), some (.int l2), some (.int l3)]) (st' := [.int (gI h9 82 (ix l2)), .int l2, .ref 82]) (h' := h9) rfl ?_ ?_
      · refine mX_to 2 (k' := 57) (ls' := [some (.ref 67), some (.int l1), some (.int l2), some (.int l3)]) (st' := [.int 1, .int (gI h9 82 (ix l2)), .int l2, .ref 82]) (h' := h9) rfl ?_
        rfl
      · refine mX_to 1 (k' := 57) (ls' := [some (.ref 67), some (.int l1), some (.int l2), some (.int l3)]) (st' := [.int 0, .int (gI h9 82 (ix l2)), .int l2, .ref 82]) (h' := h9) rfl ?_
        rfl
  · refine mX_to 2 (k' := 5) (ls' := [some (.ref 67), some (.int l1), some (.int (l2 + 1)), some (.int l3)]) (st' := []) (h' := h) rfl ?_
    rfl
theorem S_X11_layLeaving_76 {h : MH} (L : lay h) (d : Nat) (l1 : Int32) (l2 : Int32) (l3 : Int32) : G_X11_layLeaving_76 d l1 l2 l3 h = G_X11_layLeaving_25 d l1 l2 (l3 + 1) h := by
  refine mX_to 2 (k' := 25) (ls' := [some (.ref 67), some (.int l1), some (.int l2), some (.int (l3 + 1))]) (st' := []) (h' := h) rfl ?_
  rfl
theorem S_X11_layLeaving_57 {h : MH} (L : lay h) (d : Nat) (l1 : Int32) (l2 : Int32) (l3 : Int32) (s0 : Int32) (s1 : Int32) (s2 : Int32) : G_X11_layLeaving_57 d l1 l2 l3 s0 s1 s2 h = ck (ib s2 16 ∧ ((s1 ||| s0) = 0 ∨ (s1 ||| s0) = 1)) (lt_ (sI h 82 (ix s2) (s1 ||| s0)) fun h14 => ck (ib l2 16) (ck (ib (l2 &&& ((1 <<< (l3 &&& 31)) ^^^ (-1))) 16) (ck (ib l2 16) (lt_ (sL h14 83 (ix l2) ((gL h14 83 (ix l2)) + (gL h14 83 (ix (l2 &&& ((1 <<< (l3 &&& 31)) ^^^ (-1))))))) fun h16 => G_X11_layLeaving_76 d l1 l2 l3 h16)))) := by
  refine mX_to 1 (k' := 58) (ls' := [some (.ref 67), some (.int l1), some (.int l2), some (.int l3)]) (st' := [.int (s1 ||| s0), .int s2, .ref 82]) (h' := h) rfl ?_
  refine mX_cki (k' := 59) (ls' := [some (.ref 67), some (.int l1), some (.int l2), some (.int l3)]) (st' := []) (h' := (sI h 82 (ix s2) (s1 ||| s0))) (ckA3 (k_82 L) (n_82 L)) rfl fun c13 => ?_
  refine lt_geq2 (X := fun h14 : MH => mX (mE mtab d) KX11_layLeaving 59 [some (.ref 67), some (.int l1), some (.int l2), some (.int l3)] [] h14) (a := (sI h 82 (ix s2) (s1 ||| s0))) (a' := (sI h 82 (ix s2) (s1 ||| s0))) rfl fun h14 eh14 => ?_
  have L14 : lay h14 := eh14 ▸ layI L (by decide)
  refine mX_to 1 (k' := 60) (ls' := [some (.ref 67), some (.int l1), some (.int l2), some (.int l3)]) (st' := [.ref 67]) (h' := h14) rfl ?_
  refine mX_ckv (v := .ref (gR h14 67 32)) (v' := .ref 83) (k' := 61) (ls' := [some (.ref 67), some (.int l1), some (.int l2), some (.int l3)]) (st' := []) (h' := h14) (k_67 L14) (congrArg Value.ref (r_67_32 L14)) rfl ?_
  refine mX_to 2 (k' := 63) (ls' := [some (.ref 67), some (.int l1), some (.int l2), some (.int l3)]) (st' := [.int l2, .ref 83, .int l2, .ref 83]) (h' := h14) rfl ?_
  refine mX_ckw (v := .long (gL h14 83 (ix l2))) (v' := .long (gL h14 83 (ix l2))) (k' := 64) (ls' := [some (.ref 67), some (.int l1), some (.int l2), some (.int l3)]) (st' := [.int l2, .ref 83]) (h' := h14) (ckA0 (k_83 L14) (n_83 L14)) rfl rfl fun c18 => ?_
  refine mX_to 1 (k' := 65) (ls' := [some (.ref 67), some (.int l1), some (.int l2), some (.int l3)]) (st' := [.ref 67, .long (gL h14 83 (ix l2)), .int l2, .ref 83]) (h' := h14) rfl ?_
  refine mX_ckv (v := .ref (gR h14 67 32)) (v' := .ref 83) (k' := 66) (ls' := [some (.ref 67), some (.int l1), some (.int l2), some (.int l3)]) (st' := [.long (gL h14 83 (ix l2)), .int l2, .ref 83]) (h' := h14) (k_67 L14) (congrArg Value.ref (r_67_32 L14)) rfl ?_
  refine mX_to 7 (k' := 73) (ls' := [some (.ref 67), some (.int l1), some (.int l2), some (.int l3)]) (st' := [.int (l2 &&& ((1 <<< (l3 &&& 31)) ^^^ (-1))), .ref 83, .long (gL h14 83 (ix l2)), .int l2, .ref 83]) (h' := h14) rfl ?_
  refine mX_ckw (v := .long (gL h14 83 (ix (l2 &&& ((1 <<< (l3 &&& 31)) ^^^ (-1)))))) (v' := .long (gL h14 83 (ix (l2 &&& ((1 <<< (l3 &&& 31)) ^^^ (-1)))))) (k' := 74) (ls' := [some (.ref 67), some (.int l1), some (.int l2), some (.int l3)]) (st' := [.long (gL h14 83 (ix l2)), .int l2, .ref 83]) (h' := h14) (ckA0 (k_83 L14) (n_83 L14)) rfl rfl fun c17 => ?_
  refine mX_to 1 (k' := 75) (ls' := [some (.ref 67), some (.int l1), some (.int l2), some (.int l3)]) (st' := [.long ((gL h14 83 (ix l2)) + (gL h14 83 (ix (l2 &&& ((1 <<< (l3 &&& 31)) ^^^ (-1)))))), .int l2, .ref 83]) (h' := h14) rfl ?_
  refine mX_cki (k' := 76) (ls' := [some (.ref 67), some (.int l1), some (.int l2), some (.int l3)]) (st' := []) (h' := (sL h14 83 (ix l2) ((gL h14 83 (ix l2)) + (gL h14 83 (ix (l2 &&& ((1 <<< (l3 &&& 31)) ^^^ (-1)))))))) (ckA0 (k_83 L14) (n_83 L14)) rfl fun c15 => ?_
  refine lt_geq2 (X := fun h16 : MH => mX (mE mtab d) KX11_layLeaving 76 [some (.ref 67), some (.int l1), some (.int l2), some (.int l3)] [] h16) (a := (sL h14 83 (ix l2) ((gL h14 83 (ix l2)) + (gL h14 83 (ix (l2 &&& ((1 <<< (l3 &&& 31)) ^^^ (-1)))))))) (a' := (sL h14 83 (ix l2) ((gL h14 83 (ix l2)) + (gL h14 83 (ix (l2 &&& ((1 <<< (l3 &&& 31)) ^^^ (-1)))))))) rfl fun h16 eh16 => ?_
  have L16 : lay h16 := eh16 ▸ layL L14
  rfl
theorem S_X11_layLeaving {h : MH} (L : lay h) (d : Nat) : F_X11_layLeaving (d + 1) h = cI (F_X11_tipsNow d h) (fun x2 h1 => G_X11_layLeaving_5 d x2 0 none h1) := by
  refine mE_eq (q := (yX11_layLeaving, cX11_layLeaving, 4, none, KX11_layLeaving)) (C := KX11_layLeaving) (ls := [some (.ref 67), none, none, none]) rfl rfl rfl rfl ?_
  refine mX_to 1 (k' := 1) (ls' := [some (.ref 67), none, none, none]) (st' := [.ref 67]) (h' := h) rfl ?_
  refine mX_ckct (m := mcl (mE mtab d 172 [.ref 67] h) 1 2 [some (.ref 67), none, none, none] []) (k_67 L) rfl ?_
  refine mk_cIe (o := F_X11_tipsNow d h) ?_
  intro x2 h1 eh1
  have L1 : lay h1 := lay_call d 172 [.ref 67] h _ h1 rfl eh1 L
  refine mX_to 3 (k' := 5) (ls' := [some (.ref 67), some (.int x2), some (.int 0), none]) (st' := []) (h' := h1) rfl ?_
  rfl
theorem S_X11_quarrel_21 {h : MH} (L : lay h) (d : Nat) (l1 : Int32) (l2 : Int32) (l3 : Int32) (l4 : Int32) : G_X11_quarrel_21 d l1 l2 l3 l4 h = (if l4 < (gI h 68 0) then cI (F_X11_canLeave d l2 l4 l3 h) (fun x8 h7 => (if x8 = 0 then G_X11_quarrel_46 d l1 l2 l3 l4 h7 else ck (ib (l2 &&& ((1 <<< (l4 &&& 31)) ^^^ (-1))) 16) ((if (gI h7 82 (ix (l2 &&& ((1 <<< (l4 &&& 31)) ^^^ (-1))))) = 0 then some (.int l4, h7) else G_X11_quarrel_46 d l1 l2 l3 l4 h7)))) else some (.int (-1), h)) := by
  refine mX_to 2 (k' := 23) (ls' := [some (.ref 67), some (.int l1), some (.int l2), some (.int l3), some (.int l4)]) (st' := [.ref 67, .int l4]) (h' := h) rfl ?_
  refine mX_ckv (v := .ref (gR h 67 0)) (v' := .ref 68) (k' := 24) (ls' := [some (.ref 67), some (.int l1), some (.int l2), some (.int l3), some (.int l4)]) (st' := [.int l4]) (h' := h) (k_67 L) (congrArg Value.ref (r_67_0 L)) rfl ?_
  refine mX_to 1 (k' := 25) (ls' := [some (.ref 67), some (.int l1), some (.int l2), some (.int l3), some (.int l4)]) (st' := [.int 0, .ref 68, .int l4]) (h' := h) rfl ?_
  refine mX_ckv (v := .int (gI h 68 (ix (0 : Int32)))) (v' := .int (gI h 68 0)) (k' := 26) (ls' := [some (.ref 67), some (.int l1), some (.int l2), some (.int l3), some (.int l4)]) (st' := [.int l4]) (h' := h) ((ckA1 (k_68 L) (n_68 L)).mpr (ib_lit (n := 0) rfl (by decide) (by decide))) (congrArg (fun j => Value.int (gI h 68 j)) (ix_lit (n := 0) rfl (by decide))) rfl ?_
  refine mX_br (t := 27) (f := 48) (ls' := [some (.ref 67), some (.int l1), some (.int l2), some (.int l3), some (.int l4)]) (st' := []) (h' := h) rfl ?_ ?_
  · refine mX_to 4 (k' := 31) (ls' := [some (.ref 67), some (.int l1), some (.int l2), some (.int l3), some (.int l4)]) (st' := [.int l3, .int l4, .int l2, .ref 67]) (h' := h) rfl ?_
    refine mX_ckct (m := mcl (mE mtab d 281 [.ref 67, .int l2, .int l4, .int l3] h) 1 32 [some (.ref 67), some (.int l1), some (.int l2), some (.int l3), some (.int l4)] []) (k_67 L) rfl ?_
    refine mk_cIe (o := F_X11_canLeave d l2 l4 l3 h) ?_
    intro x8 h7 eh7
    have L7 : lay h7 := lay_call d 281 [.ref 67, .int l2, .int l4, .int l3] h _ h7 rfl eh7 L
    refine mX_br (t := 46) (f := 33) (ls' := [some (.ref 67), some (.int l1), some (.int l2), some (.int l3), some (.int l4)]) (st' := []) (h' := h7) rfl ?_ ?_
    · rfl
    · refine mX_to 1 (k' := 34) (ls' := [some (.ref 67), some (.int l1), some (.int l2), some (.int l3), some (.int l4)]) (st' := [.ref 67]) (h' := h7) rfl ?_
      refine mX_ckv (v := .ref (gR h7 67 31)) (v' := .ref 82) (k' := 35) (ls' := [some (.ref 67), some (.int l1), some (.int l2), some (.int l3), some (.int l4)]) (st' := []) (h' := h7) (k_67 L7) (congrArg Value.ref (r_67_31 L7)) rfl ?_
      refine mX_to 7 (k' := 42) (ls' := [some (.ref 67), some (.int l1), some (.int l2), some (.int l3), some (.int l4)]) (st' := [.int (l2 &&& ((1 <<< (l4 &&& 31)) ^^^ (-1))), .ref 82]) (h' := h7) rfl ?_
      refine mX_ckw (v := .int (gI h7 82 (ix (l2 &&& ((1 <<< (l4 &&& 31)) ^^^ (-1)))))) (v' := .int (gI h7 82 (ix (l2 &&& ((1 <<< (l4 &&& 31)) ^^^ (-1)))))) (k' := 43) (ls' := [some (.ref 67), some (.int l1), some (.int l2), some (.int l3), some (.int l4)]) (st' := []) (h' := h7) (ckA1 (k_82 L7) (n_82 L7)) rfl rfl fun c9 => ?_
      refine mX_br (t := 44) (f := 46) (ls' := [some (.ref 67), some (.int l1), some (.int l2), some (.int l3), some (.int l4)]) (st' := []) (h' := h7) rfl ?_ ?_
      · refine mX_to 1 (k' := 45) (ls' := [some (.ref 67), some (.int l1), some (.int l2), some (.int l3), some (.int l4)]) (st' := [.int l4]) (h' := h7) rfl ?_
        exact mX_reti rfl
      · rfl
  · refine mX_to 1 (k' := 49) (ls' := [some (.ref 67), some (.int l1), some (.int l2), some (.int l3), some (.int l4)]) (st' := [.int (-1)]) (h' := h) rfl ?_
    exact mX_reti rfl
theorem S_X11_quarrel_46 {h : MH} (L : lay h) (d : Nat) (l1 : Int32) (l2 : Int32) (l3 : Int32) (l4 : Int32) : G_X11_quarrel_46 d l1 l2 l3 l4 h = G_X11_quarrel_21 d l1 l2 l3 (l4 + 1) h := by
  refine mX_to 2 (k' := 21) (ls' := [some (.ref 67), some (.int l1), some (.int l2), some (.int l3), some (.int (l4 + 1))]) (st' := []) (h' := h) rfl ?_
  rfl
theorem S_X11_quarrel {h : MH} (L : lay h) (d : Nat) (a1 : Int32) : F_X11_quarrel (d + 1) a1 h = cV (F_X11_layLeaving d h) (fun h1 => cI (F_X11_everyone d h1) (fun x3 h2 => (if a1 = 0 then ck (ib x3 16) ((if (gI h2 82 (ix x3)) = 0 then some (.int 0, h2) else some (.int 1, h2))) else cI (F_X11_tipsNow d h2) (fun x6 h5 => G_X11_quarrel_21 d a1 x3 x6 0 h5)))) := by
  refine mE_eq (q := (yX11_quarrel, cX11_quarrel, 5, (some .int), KX11_quarrel)) (C := KX11_quarrel) (ls := [some (.ref 67), some (.int a1), none, none, none]) rfl rfl rfl rfl ?_
  refine mX_to 1 (k' := 1) (ls' := [some (.ref 67), some (.int a1), none, none, none]) (st' := [.ref 67]) (h' := h) rfl ?_
  refine mX_ckct (m := mcl (mE mtab d 282 [.ref 67] h) 0 2 [some (.ref 67), some (.int a1), none, none, none] []) (k_67 L) rfl ?_
  refine mk_cVe (o := F_X11_layLeaving d h) ?_
  intro wh1 h1 eh1
  have L1 : lay h1 := lay_call d 282 [.ref 67] h _ h1 rfl eh1 L
  refine mX_to 1 (k' := 3) (ls' := [some (.ref 67), some (.int a1), none, none, none]) (st' := [.ref 67]) (h' := h1) rfl ?_
  refine mX_ckct (m := mcl (mE mtab d 154 [.ref 67] h1) 1 4 [some (.ref 67), some (.int a1), none, none, none] []) (k_67 L1) rfl ?_
  refine mk_cIe (o := F_X11_everyone d h1) ?_
  intro x3 h2 eh2
  have L2 : lay h2 := lay_call d 154 [.ref 67] h1 _ h2 rfl eh2 L1
  refine mX_to 2 (k' := 6) (ls' := [some (.ref 67), some (.int a1), some (.int x3), none, none]) (st' := [.int a1]) (h' := h2) rfl ?_
  refine mX_br (t := 7) (f := 16) (ls' := [some (.ref 67), some (.int a1), some (.int x3), none, none]) (st' := []) (h' := h2) rfl ?_ ?_
  · refine mX_to 1 (k' := 8) (ls' := [some (.ref 67), some (.int a1), some (.int x3), none, none]) (st' := [.ref 67]) (h' := h2) rfl ?_
    refine mX_ckv (v := .ref (gR h2 67 31)) (v' := .ref 82) (k' := 9) (ls' := [some (.ref 67), some (.int a1), some (.int x3), none, none]) (st' := []) (h' := h2) (k_67 L2) (congrArg Value.ref (r_67_31 L2)) rfl ?_
    refine mX_to 1 (k' := 10) (ls' := [some (.ref 67), some (.int a1), some (.int x3), none, none]) (st' := [.int x3, .ref 82]) (h' := h2) rfl ?_
    refine mX_ckw (v := .int (gI h2 82 (ix x3))) (v' := .int (gI h2 82 (ix x3))) (k' := 11) (ls' := [some (.ref 67), some (.int a1), some (.int x3), none, none]) (st' := []) (h' := h2) (ckA1 (k_82 L2) (n_82 L2)) rfl rfl fun c4 => ?_
    refine mX_br (t := 14) (f := 12) (ls' := [some (.ref 67), some (.int a1), some (.int x3), none, none]) (st' := []) (h' := h2) rfl ?_ ?_
    · refine mX_to 1 (k' := 15) (ls' := [some (.ref 67), some (.int a1), some (.int x3), none, none]) (st' := [.int 0]) (h' := h2) rfl ?_
      exact mX_reti rfl
    · refine mX_to 2 (k' := 15) (ls' := [some (.ref 67), some (.int a1), some (.int x3), none, none]) (st' := [.int 1]) (h' := h2) rfl ?_
      exact mX_reti rfl
  · refine mX_to 1 (k' := 17) (ls' := [some (.ref 67), some (.int a1), some (.int x3), none, none]) (st' := [.ref 67]) (h' := h2) rfl ?_
    refine mX_ckct (m := mcl (mE mtab d 172 [.ref 67] h2) 1 18 [some (.ref 67), some (.int a1), some (.int x3), none, none] []) (k_67 L2) rfl ?_
    refine mk_cIe (o := F_X11_tipsNow d h2) ?_
    intro x6 h5 eh5
    have L5 : lay h5 := lay_call d 172 [.ref 67] h2 _ h5 rfl eh5 L2
    refine mX_to 3 (k' := 21) (ls' := [some (.ref 67), some (.int a1), some (.int x3), some (.int x6), some (.int 0)]) (st' := []) (h' := h5) rfl ?_
    rfl
theorem S_X10_orders {h : MH} (L : lay h) (d : Nat) : F_X10_orders (d + 1) h = cV (F_X1_weigh d h) (fun h1 => ck (ib (gI h1 63 4) 16) (some (.long (gL h1 65 (ix (gI h1 63 4))), h1))) := by
  refine mE_eq (q := (yX10_orders, cX10_orders, 1, (some .long), KX10_orders)) (C := KX10_orders) (ls := [some (.ref 8)]) rfl rfl rfl rfl ?_
  refine mX_to 1 (k' := 1) (ls' := [some (.ref 8)]) (st' := [.ref 8]) (h' := h) rfl ?_
  refine mX_ckv (v := .ref (gR h 8 6)) (v' := .ref 63) (k' := 2) (ls' := [some (.ref 8)]) (st' := []) (h' := h) (k_8 L) (congrArg Value.ref (r_8_6 L)) rfl ?_
  refine mX_to 1 (k' := 3) (ls' := [some (.ref 8)]) (st' := [.ref 8, .ref 63]) (h' := h) rfl ?_
  refine mX_ckv (v := .ref (gR h 8 0)) (v' := .ref 9) (k' := 4) (ls' := [some (.ref 8)]) (st' := [.ref 63]) (h' := h) (k_8 L) (congrArg Value.ref (r_8_0 L)) rfl ?_
  refine mX_ckv (v := .ref (gR h 9 0)) (v' := .ref 10) (k' := 5) (ls' := [some (.ref 8)]) (st' := [.ref 63]) (h' := h) (k_9 L) (congrArg Value.ref (r_9_0 L)) rfl ?_
  refine mX_ckct (m := mcl (mE mtab d 278 [.ref 63, .ref 10] h) 0 6 [some (.ref 8)] []) (k_63 L) rfl ?_
  refine mk_cVe (o := F_X1_weigh d h) ?_
  intro wh1 h1 eh1
  have L1 : lay h1 := lay_call d 278 [.ref 63, .ref 10] h _ h1 rfl eh1 L
  refine mX_to 1 (k' := 7) (ls' := [some (.ref 8)]) (st' := [.ref 8]) (h' := h1) rfl ?_
  refine mX_ckv (v := .ref (gR h1 8 6)) (v' := .ref 63) (k' := 8) (ls' := [some (.ref 8)]) (st' := []) (h' := h1) (k_8 L1) (congrArg Value.ref (r_8_6 L1)) rfl ?_
  refine mX_ckv (v := .ref (gR h1 63 1)) (v' := .ref 65) (k' := 9) (ls' := [some (.ref 8)]) (st' := []) (h' := h1) (k_63 L1) (congrArg Value.ref (r_63_1 L1)) rfl ?_
  refine mX_to 1 (k' := 10) (ls' := [some (.ref 8)]) (st' := [.ref 8, .ref 65]) (h' := h1) rfl ?_
  refine mX_ckv (v := .ref (gR h1 8 6)) (v' := .ref 63) (k' := 11) (ls' := [some (.ref 8)]) (st' := [.ref 65]) (h' := h1) (k_8 L1) (congrArg Value.ref (r_8_6 L1)) rfl ?_
  refine mX_ckv (v := .int (gI h1 63 4)) (v' := .int (gI h1 63 4)) (k' := 12) (ls' := [some (.ref 8)]) (st' := [.ref 65]) (h' := h1) (k_63 L1) rfl rfl ?_
  refine mX_ckw (v := .long (gL h1 65 (ix (gI h1 63 4)))) (v' := .long (gL h1 65 (ix (gI h1 63 4)))) (k' := 13) (ls' := [some (.ref 8)]) (st' := []) (h' := h1) (ckA0 (k_65 L1) (n_65 L1)) rfl rfl fun c2 => ?_
  exact mX_ret rfl
theorem S_X11_orders {h : MH} (L : lay h) (d : Nat) : F_X11_orders (d + 1) h = cV (F_X11_layLeaving d h) (fun h1 => cI (F_X11_everyone d h1) (fun x3 h2 => ck (ib x3 16) (some (.long (gL h2 83 (ix x3)), h2)))) := by
  refine mE_eq (q := (yX11_orders, cX11_orders, 1, (some .long), KX11_orders)) (C := KX11_orders) (ls := [some (.ref 67)]) rfl rfl rfl rfl ?_
  refine mX_to 1 (k' := 1) (ls' := [some (.ref 67)]) (st' := [.ref 67]) (h' := h) rfl ?_
  refine mX_ckct (m := mcl (mE mtab d 282 [.ref 67] h) 0 2 [some (.ref 67)] []) (k_67 L) rfl ?_
  refine mk_cVe (o := F_X11_layLeaving d h) ?_
  intro wh1 h1 eh1
  have L1 : lay h1 := lay_call d 282 [.ref 67] h _ h1 rfl eh1 L
  refine mX_to 1 (k' := 3) (ls' := [some (.ref 67)]) (st' := [.ref 67]) (h' := h1) rfl ?_
  refine mX_ckv (v := .ref (gR h1 67 32)) (v' := .ref 83) (k' := 4) (ls' := [some (.ref 67)]) (st' := []) (h' := h1) (k_67 L1) (congrArg Value.ref (r_67_32 L1)) rfl ?_
  refine mX_to 1 (k' := 5) (ls' := [some (.ref 67)]) (st' := [.ref 67, .ref 83]) (h' := h1) rfl ?_
  refine mX_ckct (m := mcl (mE mtab d 154 [.ref 67] h1) 1 6 [some (.ref 67)] [.ref 83]) (k_67 L1) rfl ?_
  refine mk_cIe (o := F_X11_everyone d h1) ?_
  intro x3 h2 eh2
  have L2 : lay h2 := lay_call d 154 [.ref 67] h1 _ h2 rfl eh2 L1
  refine mX_ckw (v := .long (gL h2 83 (ix x3))) (v' := .long (gL h2 83 (ix x3))) (k' := 7) (ls' := [some (.ref 67)]) (st' := []) (h' := h2) (ckA0 (k_83 L2) (n_83 L2)) rfl rfl fun c4 => ?_
  exact mX_ret rfl
theorem S_X1_nextOff_2 {h : MH} (L : lay h) (d : Nat) (l1 : Int32) (l2 : Int32) : G_X1_nextOff_2 d l1 l2 h = (if l2 < 4 then cI (F_X1_canLeave d l1 l2 h) (fun x2 h1 => (if x2 = 0 then G_X1_nextOff_23 d l1 l2 h1 else ck (ib (l1 - (1 <<< (l2 &&& 31))) 16) ((if (lg_cmp (gL h1 65 (ix (l1 - (1 <<< (l2 &&& 31))))) 0) ≤ 0 then G_X1_nextOff_23 d l1 l2 h1 else some (.int l2, h1))))) else some (.int (-2), h)) := by
  refine mX_to 2 (k' := 4) (ls' := [some (.ref 63), some (.int l1), some (.int l2)]) (st' := [.int 4, .int l2]) (h' := h) rfl ?_
  refine mX_br (t := 5) (f := 25) (ls' := [some (.ref 63), some (.int l1), some (.int l2)]) (st' := []) (h' := h) rfl ?_ ?_
  · refine mX_to 3 (k' := 8) (ls' := [some (.ref 63), some (.int l1), some (.int l2)]) (st' := [.int l2, .int l1, .ref 63]) (h' := h) rfl ?_
    refine mX_ckct (m := mcl (mE mtab d 276 [.ref 63, .int l1, .int l2] h) 1 9 [some (.ref 63), some (.int l1), some (.int l2)] []) (k_63 L) rfl ?_
    refine mk_cIe (o := F_X1_canLeave d l1 l2 h) ?_
    intro x2 h1 eh1
    have L1 : lay h1 := lay_call d 276 [.ref 63, .int l1, .int l2] h _ h1 rfl eh1 L
    refine mX_br (t := 23) (f := 10) (ls' := [some (.ref 63), some (.int l1), some (.int l2)]) (st' := []) (h' := h1) rfl ?_ ?_
    · rfl
    · refine mX_to 1 (k' := 11) (ls' := [some (.ref 63), some (.int l1), some (.int l2)]) (st' := [.ref 63]) (h' := h1) rfl ?_
      refine mX_ckv (v := .ref (gR h1 63 1)) (v' := .ref 65) (k' := 12) (ls' := [some (.ref 63), some (.int l1), some (.int l2)]) (st' := []) (h' := h1) (k_63 L1) (congrArg Value.ref (r_63_1 L1)) rfl ?_
      refine mX_to 5 (k' := 17) (ls' := [some (.ref 63), some (.int l1), some (.int l2)]) (st' := [.int (l1 - (1 <<< (l2 &&& 31))), .ref 65]) (h' := h1) rfl ?_
      refine mX_ckw (v := .long (gL h1 65 (ix (l1 - (1 <<< (l2 &&& 31)))))) (v' := .long (gL h1 65 (ix (l1 - (1 <<< (l2 &&& 31)))))) (k' := 18) (ls' := [some (.ref 63), some (.int l1), some (.int l2)]) (st' := []) (h' := h1) (ckA0 (k_65 L1) (n_65 L1)) rfl rfl fun c3 => ?_
      refine mX_to 2 (k' := 20) (ls' := [some (.ref 63), some (.int l1), some (.int l2)]) (st' := [.int (lg_cmp (gL h1 65 (ix (l1 - (1 <<< (l2 &&& 31))))) 0)]) (h' := h1) rfl ?_
      refine mX_br (t := 23) (f := 21) (ls' := [some (.ref 63), some (.int l1), some (.int l2)]) (st' := []) (h' := h1) rfl ?_ ?_
      · rfl
      · refine mX_to 1 (k' := 22) (ls' := [some (.ref 63), some (.int l1), some (.int l2)]) (st' := [.int l2]) (h' := h1) rfl ?_
        exact mX_reti rfl
  · refine mX_to 1 (k' := 26) (ls' := [some (.ref 63), some (.int l1), some (.int l2)]) (st' := [.int (-2)]) (h' := h) rfl ?_
    exact mX_reti rfl
theorem S_X1_nextOff_23 {h : MH} (L : lay h) (d : Nat) (l1 : Int32) (l2 : Int32) : G_X1_nextOff_23 d l1 l2 h = G_X1_nextOff_2 d l1 (l2 + 1) h := by
  refine mX_to 2 (k' := 2) (ls' := [some (.ref 63), some (.int l1), some (.int (l2 + 1))]) (st' := []) (h' := h) rfl ?_
  rfl
theorem S_X1_nextOff {h : MH} (L : lay h) (d : Nat) (a1 : Int32) : F_X1_nextOff (d + 1) a1 h = G_X1_nextOff_2 d a1 0 h := by
  refine mE_eq (q := (yX1_nextOff, cX1_nextOff, 3, (some .int), KX1_nextOff)) (C := KX1_nextOff) (ls := [some (.ref 63), some (.int a1), none]) rfl rfl rfl rfl ?_
  refine mX_to 2 (k' := 2) (ls' := [some (.ref 63), some (.int a1), some (.int 0)]) (st' := []) (h' := h) rfl ?_
  rfl
theorem S_X1_goingOff_7 {h : MH} (L : lay h) (d : Nat) (l1 : Int32) (l2 : Int32) (l3 : Int32) (l4 : Int32) : G_X1_goingOff_7 d l1 l2 l3 l4 h = (if l4 ≤ l1 then (if l2 = 0 then some (.int l3, h) else cI (F_X1_nextOff d l2 h) (fun x2 h1 => (if x2 = (-2) then some (.int (-2), h1) else lt_ (l2 - (1 <<< (x2 &&& 31))) fun v3 => G_X1_goingOff_7 d l1 v3 x2 (l4 + 1) h1))) else some (.int l3, h)) := by
  refine mX_to 2 (k' := 9) (ls' := [some (.ref 63), some (.int l1), some (.int l2), some (.int l3), some (.int l4)]) (st' := [.int l1, .int l4]) (h' := h) rfl ?_
  refine mX_br (t := 10) (f := 29) (ls' := [some (.ref 63), some (.int l1), some (.int l2), some (.int l3), some (.int l4)]) (st' := []) (h' := h) rfl ?_ ?_
  · refine mX_to 1 (k' := 11) (ls' := [some (.ref 63), some (.int l1), some (.int l2), some (.int l3), some (.int l4)]) (st' := [.int l2]) (h' := h) rfl ?_
    refine mX_br (t := 29) (f := 12) (ls' := [some (.ref 63), some (.int l1), some (.int l2), some (.int l3), some (.int l4)]) (st' := []) (h' := h) rfl ?_ ?_
    · refine mX_to 1 (k' := 30) (ls' := [some (.ref 63), some (.int l1), some (.int l2), some (.int l3), some (.int l4)]) (st' := [.int l3]) (h' := h) rfl ?_
      exact mX_reti rfl
    · refine mX_to 2 (k' := 14) (ls' := [some (.ref 63), some (.int l1), some (.int l2), some (.int l3), some (.int l4)]) (st' := [.int l2, .ref 63]) (h' := h) rfl ?_
      refine mX_ckct (m := mcl (mE mtab d 286 [.ref 63, .int l2] h) 1 15 [some (.ref 63), some (.int l1), some (.int l2), some (.int l3), some (.int l4)] []) (k_63 L) rfl ?_
      refine mk_cIe (o := F_X1_nextOff d l2 h) ?_
      intro x2 h1 eh1
      have L1 : lay h1 := lay_call d 286 [.ref 63, .int l2] h _ h1 rfl eh1 L
      refine mX_to 3 (k' := 18) (ls' := [some (.ref 63), some (.int l1), some (.int l2), some (.int x2), some (.int l4)]) (st' := [.int (-2), .int x2]) (h' := h1) rfl ?_
      refine mX_br (t := 19) (f := 21) (ls' := [some (.ref 63), some (.int l1), some (.int l2), some (.int x2), some (.int l4)]) (st' := []) (h' := h1) rfl ?_ ?_
      · refine mX_to 1 (k' := 20) (ls' := [some (.ref 63), some (.int l1), some (.int l2), some (.int x2), some (.int l4)]) (st' := [.int (-2)]) (h' := h1) rfl ?_
        exact mX_reti rfl
      · refine mX_to 5 (k' := 26) (ls' := [some (.ref 63), some (.int l1), some (.int l2), some (.int x2), some (.int l4)]) (st' := [.int (l2 - (1 <<< (x2 &&& 31)))]) (h' := h1) rfl ?_
        refine lt_gen (X := fun v3 : Int32 => mX (mE mtab d) KX1_goingOff 26 [some (.ref 63), some (.int l1), some (.int l2), some (.int x2), some (.int l4)] [.int v3] h1) fun v3 => ?_
        refine mX_to 3 (k' := 7) (ls' := [some (.ref 63), some (.int l1), some (.int v3), some (.int x2), some (.int (l4 + 1))]) (st' := []) (h' := h1) rfl ?_
        rfl
  · refine mX_to 1 (k' := 30) (ls' := [some (.ref 63), some (.int l1), some (.int l2), some (.int l3), some (.int l4)]) (st' := [.int l3]) (h' := h) rfl ?_
    exact mX_reti rfl
theorem S_X1_goingOff {h : MH} (L : lay h) (d : Nat) (a1 : Int32) : F_X1_goingOff (d + 1) a1 h = G_X1_goingOff_7 d a1 (gI h 63 4) (-2) 0 h := by
  refine mE_eq (q := (yX1_goingOff, cX1_goingOff, 5, (some .int), KX1_goingOff)) (C := KX1_goingOff) (ls := [some (.ref 63), some (.int a1), none, none, none]) rfl rfl rfl rfl ?_
  refine mX_to 1 (k' := 1) (ls' := [some (.ref 63), some (.int a1), none, none, none]) (st' := [.ref 63]) (h' := h) rfl ?_
  refine mX_ckv (v := .int (gI h 63 4)) (v' := .int (gI h 63 4)) (k' := 2) (ls' := [some (.ref 63), some (.int a1), none, none, none]) (st' := []) (h' := h) (k_63 L) rfl rfl ?_
  refine mX_to 5 (k' := 7) (ls' := [some (.ref 63), some (.int a1), some (.int (gI h 63 4)), some (.int (-2)), some (.int 0)]) (st' := []) (h' := h) rfl ?_
  rfl
theorem S_X10_order {h : MH} (L : lay h) (d : Nat) (a1 : Int32) : F_X10_order (d + 1) a1 h = cI (F_X10_within d a1 0 ((gI h 10 0) - 1) h) (fun x2 h1 => (if x2 = 0 then some (.int (-2), h1) else cV (F_X1_weigh d h1) (fun h3 => cI (F_X1_goingOff d a1 h3) (fun x5 h4 => some (.int x5, h4))))) := by
  refine mE_eq (q := (yX10_order, cX10_order, 2, (some .int), KX10_order)) (C := KX10_order) (ls := [some (.ref 8), some (.int a1)]) rfl rfl rfl rfl ?_
  refine mX_to 3 (k' := 3) (ls' := [some (.ref 8), some (.int a1)]) (st' := [.ref 8, .int 0, .int a1]) (h' := h) rfl ?_
  refine mX_ckv (v := .ref (gR h 8 0)) (v' := .ref 9) (k' := 4) (ls' := [some (.ref 8), some (.int a1)]) (st' := [.int 0, .int a1]) (h' := h) (k_8 L) (congrArg Value.ref (r_8_0 L)) rfl ?_
  refine mX_ckv (v := .ref (gR h 9 0)) (v' := .ref 10) (k' := 5) (ls' := [some (.ref 8), some (.int a1)]) (st' := [.int 0, .int a1]) (h' := h) (k_9 L) (congrArg Value.ref (r_9_0 L)) rfl ?_
  refine mX_ckv (v := .int (gI h 10 0)) (v' := .int (gI h 10 0)) (k' := 6) (ls' := [some (.ref 8), some (.int a1)]) (st' := [.int 0, .int a1]) (h' := h) (k_10 L) rfl rfl ?_
  refine mX_to 2 (k' := 8) (ls' := [some (.ref 8), some (.int a1)]) (st' := [.int ((gI h 10 0) - 1), .int 0, .int a1]) (h' := h) rfl ?_
  refine mX_cIe (o := F_X10_within d a1 0 ((gI h 10 0) - 1) h) (k' := 9) (ls' := [some (.ref 8), some (.int a1)]) (st' := []) rfl ?_
  intro x2 h1 eh1
  have L1 : lay h1 := lay_call d 11 [.int a1, .int 0, .int ((gI h 10 0) - 1)] h _ h1 rfl eh1 L
  refine mX_br (t := 10) (f := 12) (ls' := [some (.ref 8), some (.int a1)]) (st' := []) (h' := h1) rfl ?_ ?_
  · refine mX_to 1 (k' := 11) (ls' := [some (.ref 8), some (.int a1)]) (st' := [.int (-2)]) (h' := h1) rfl ?_
    exact mX_reti rfl
  · refine mX_to 1 (k' := 13) (ls' := [some (.ref 8), some (.int a1)]) (st' := [.ref 8]) (h' := h1) rfl ?_
    refine mX_ckv (v := .ref (gR h1 8 6)) (v' := .ref 63) (k' := 14) (ls' := [some (.ref 8), some (.int a1)]) (st' := []) (h' := h1) (k_8 L1) (congrArg Value.ref (r_8_6 L1)) rfl ?_
    refine mX_to 1 (k' := 15) (ls' := [some (.ref 8), some (.int a1)]) (st' := [.ref 8, .ref 63]) (h' := h1) rfl ?_
    refine mX_ckv (v := .ref (gR h1 8 0)) (v' := .ref 9) (k' := 16) (ls' := [some (.ref 8), some (.int a1)]) (st' := [.ref 63]) (h' := h1) (k_8 L1) (congrArg Value.ref (r_8_0 L1)) rfl ?_
    refine mX_ckv (v := .ref (gR h1 9 0)) (v' := .ref 10) (k' := 17) (ls' := [some (.ref 8), some (.int a1)]) (st' := [.ref 63]) (h' := h1) (k_9 L1) (congrArg Value.ref (r_9_0 L1)) rfl ?_
    refine mX_ckct (m := mcl (mE mtab d 278 [.ref 63, .ref 10] h1) 0 18 [some (.ref 8), some (.int a1)] []) (k_63 L1) rfl ?_
    refine mk_cVe (o := F_X1_weigh d h1) ?_
    intro wh3 h3 eh3
    have L3 : lay h3 := lay_call d 278 [.ref 63, .ref 10] h1 _ h3 rfl eh3 L1
    refine mX_to 1 (k' := 19) (ls' := [some (.ref 8), some (.int a1)]) (st' := [.ref 8]) (h' := h3) rfl ?_
    refine mX_ckv (v := .ref (gR h3 8 6)) (v' := .ref 63) (k' := 20) (ls' := [some (.ref 8), some (.int a1)]) (st' := []) (h' := h3) (k_8 L3) (congrArg Value.ref (r_8_6 L3)) rfl ?_
    refine mX_to 1 (k' := 21) (ls' := [some (.ref 8), some (.int a1)]) (st' := [.int a1, .ref 63]) (h' := h3) rfl ?_
    refine mX_ckct (m := mcl (mE mtab d 287 [.ref 63, .int a1] h3) 1 22 [some (.ref 8), some (.int a1)] []) (k_63 L3) rfl ?_
    refine mk_cIe (o := F_X1_goingOff d a1 h3) ?_
    intro x5 h4 eh4
    have L4 : lay h4 := lay_call d 287 [.ref 63, .int a1] h3 _ h4 rfl eh4 L3
    exact mX_reti rfl
theorem S_X11_order_31 {h : MH} (L : lay h) (d : Nat) (l1 : Int32) (l2 : Int32) (l3 : Int32) (l4 : Int32) (l5 : Int32) : G_X11_order_31 d l1 l2 l3 l4 l5 h = (if l5 ≤ l1 then G_X11_order_36 d l1 l2 l3 0 l5 h else some (.int l4, h)) := by
  refine mX_to 2 (k' := 33) (ls' := [some (.ref 67), some (.int l1), some (.int l2), some (.int l3), some (.int l4), some (.int l5)]) (st' := [.int l1, .int l5]) (h' := h) rfl ?_
  refine mX_br (t := 34) (f := 67) (ls' := [some (.ref 67), some (.int l1), some (.int l2), some (.int l3), some (.int l4), some (.int l5)]) (st' := []) (h' := h) rfl ?_ ?_
  · refine mX_to 2 (k' := 36) (ls' := [some (.ref 67), some (.int l1), some (.int l2), some (.int l3), some (.int 0), some (.int l5)]) (st' := []) (h' := h) rfl ?_
    rfl
  · refine mX_to 1 (k' := 68) (ls' := [some (.ref 67), some (.int l1), some (.int l2), some (.int l3), some (.int l4), some (.int l5)]) (st' := [.int l4]) (h' := h) rfl ?_
    exact mX_reti rfl
theorem S_X11_order_36 {h : MH} (L : lay h) (d : Nat) (l1 : Int32) (l2 : Int32) (l3 : Int32) (l4 : Int32) (l5 : Int32) : G_X11_order_36 d l1 l2 l3 l4 l5 h = cI (F_X11_canLeave d l2 l4 l3 h) (fun x10 h9 => (if x10 = 0 then G_X11_order_55 d l1 l2 l3 l4 l5 h9 else ck (ib (l2 &&& ((1 <<< (l4 &&& 31)) ^^^ (-1))) 16) ((if (lg_cmp (gL h9 83 (ix (l2 &&& ((1 <<< (l4 &&& 31)) ^^^ (-1))))) 0) = 0 then G_X11_order_55 d l1 l2 l3 l4 l5 h9 else lt_ (l2 &&& ((1 <<< (l4 &&& 31)) ^^^ (-1))) fun v11 => G_X11_order_31 d l1 v11 l3 l4 (l5 + 1) h9)))) := by
  refine mX_to 4 (k' := 40) (ls' := [some (.ref 67), some (.int l1), some (.int l2), some (.int l3), some (.int l4), some (.int l5)]) (st' := [.int l3, .int l4, .int l2, .ref 67]) (h' := h) rfl ?_
  refine mX_ckct (m := mcl (mE mtab d 281 [.ref 67, .int l2, .int l4, .int l3] h) 1 41 [some (.ref 67), some (.int l1), some (.int l2), some (.int l3), some (.int l4), some (.int l5)] []) (k_67 L) rfl ?_
  refine mk_cIe (o := F_X11_canLeave d l2 l4 l3 h) ?_
  intro x10 h9 eh9
  have L9 : lay h9 := lay_call d 281 [.ref 67, .int l2, .int l4, .int l3] h _ h9 rfl eh9 L
  refine mX_br (t := 55) (f := 42) (ls' := [some (.ref 67), some (.int l1), some (.int l2), some (.int l3), some (.int l4), some (.int l5)]) (st' := []) (h' := h9) rfl ?_ ?_
  · rfl
  · refine mX_to 1 (k' := 43) (ls' := [some (.ref 67), some (.int l1), some (.int l2), some (.int l3), some (.int l4), some (.int l5)]) (st' := [.ref 67]) (h' := h9) rfl ?_
    refine mX_ckv (v := .ref (gR h9 67 32)) (v' := .ref 83) (k' := 44) (ls' := [some (.ref 67), some (.int l1), some (.int l2), some (.int l3), some (.int l4), some (.int l5)]) (st' := []) (h' := h9) (k_67 L9) (congrArg Value.ref (r_67_32 L9)) rfl ?_
    refine mX_to 7 (k' := 51) (ls' := [some (.ref 67), some (.int l1), some (.int l2), some (.int l3), some (.int l4), some (.int l5)]) (st' := [.int (l2 &&& ((1 <<< (l4 &&& 31)) ^^^ (-1))), .ref 83]) (h' := h9) rfl ?_
    refine mX_ckw (v := .long (gL h9 83 (ix (l2 &&& ((1 <<< (l4 &&& 31)) ^^^ (-1)))))) (v' := .long (gL h9 83 (ix (l2 &&& ((1 <<< (l4 &&& 31)) ^^^ (-1)))))) (k' := 52) (ls' := [some (.ref 67), some (.int l1), some (.int l2), some (.int l3), some (.int l4), some (.int l5)]) (st' := []) (h' := h9) (ckA0 (k_83 L9) (n_83 L9)) rfl rfl fun c12 => ?_
    refine mX_to 2 (k' := 54) (ls' := [some (.ref 67), some (.int l1), some (.int l2), some (.int l3), some (.int l4), some (.int l5)]) (st' := [.int (lg_cmp (gL h9 83 (ix (l2 &&& ((1 <<< (l4 &&& 31)) ^^^ (-1))))) 0)]) (h' := h9) rfl ?_
    refine mX_br (t := 55) (f := 57) (ls' := [some (.ref 67), some (.int l1), some (.int l2), some (.int l3), some (.int l4), some (.int l5)]) (st' := []) (h' := h9) rfl ?_ ?_
    · rfl
    · refine mX_to 7 (k' := 64) (ls' := [some (.ref 67), some (.int l1), some (.int l2), some (.int l3), some (.int l4), some (.int l5)]) (st' := [.int (l2 &&& ((1 <<< (l4 &&& 31)) ^^^ (-1)))]) (h' := h9) rfl ?_
      refine lt_gen (X := fun v11 : Int32 => mX (mE mtab d) KX11_order 64 [some (.ref 67), some (.int l1), some (.int l2), some (.int l3), some (.int l4), some (.int l5)] [.int v11] h9) fun v11 => ?_
      refine mX_to 3 (k' := 31) (ls' := [some (.ref 67), some (.int l1), some (.int v11), some (.int l3), some (.int l4), some (.int (l5 + 1))]) (st' := []) (h' := h9) rfl ?_
      rfl
theorem S_X11_order_55 {h : MH} (L : lay h) (d : Nat) (l1 : Int32) (l2 : Int32) (l3 : Int32) (l4 : Int32) (l5 : Int32) : G_X11_order_55 d l1 l2 l3 l4 l5 h = G_X11_order_36 d l1 l2 l3 (l4 + 1) l5 h := by
  refine mX_to 2 (k' := 36) (ls' := [some (.ref 67), some (.int l1), some (.int l2), some (.int l3), some (.int (l4 + 1)), some (.int l5)]) (st' := []) (h' := h) rfl ?_
  rfl
theorem S_X11_order {h : MH} (L : lay h) (d : Nat) (a1 : Int32) : F_X11_order (d + 1) a1 h = cV (F_X11_layLeaving d h) (fun h1 => cI (F_X11_everyone d h1) (fun x3 h2 => ck (ib x3 16) ((if (lg_cmp (gL h2 83 (ix x3)) 0) = 0 then some (.int (-2), h2) else cI (F_X11_isIn d a1 0 ((gI h2 68 0) - 1) h2) (fun x5 h4 => (if x5 = 0 then some (.int (-2), h4) else cI (F_X11_tipsNow d h4) (fun x7 h6 => G_X11_order_31 d a1 x3 x7 0 0 h6))))))) := by
  refine mE_eq (q := (yX11_order, cX11_order, 6, (some .int), KX11_order)) (C := KX11_order) (ls := [some (.ref 67), some (.int a1), none, none, none, none]) rfl rfl rfl rfl ?_
  refine mX_to 1 (k' := 1) (ls' := [some (.ref 67), some (.int a1), none, none, none, none]) (st' := [.ref 67]) (h' := h) rfl ?_
  refine mX_ckct (m := mcl (mE mtab d 282 [.ref 67] h) 0 2 [some (.ref 67), some (.int a1), none, none, none, none] []) (k_67 L) rfl ?_
  refine mk_cVe (o := F_X11_layLeaving d h) ?_
  intro wh1 h1 eh1
  have L1 : lay h1 := lay_call d 282 [.ref 67] h _ h1 rfl eh1 L
  refine mX_to 1 (k' := 3) (ls' := [some (.ref 67), some (.int a1), none, none, none, none]) (st' := [.ref 67]) (h' := h1) rfl ?_
  refine mX_ckct (m := mcl (mE mtab d 154 [.ref 67] h1) 1 4 [some (.ref 67), some (.int a1), none, none, none, none] []) (k_67 L1) rfl ?_
  refine mk_cIe (o := F_X11_everyone d h1) ?_
  intro x3 h2 eh2
  have L2 : lay h2 := lay_call d 154 [.ref 67] h1 _ h2 rfl eh2 L1
  refine mX_to 2 (k' := 6) (ls' := [some (.ref 67), some (.int a1), some (.int x3), none, none, none]) (st' := [.ref 67]) (h' := h2) rfl ?_
  refine mX_ckv (v := .ref (gR h2 67 32)) (v' := .ref 83) (k' := 7) (ls' := [some (.ref 67), some (.int a1), some (.int x3), none, none, none]) (st' := []) (h' := h2) (k_67 L2) (congrArg Value.ref (r_67_32 L2)) rfl ?_
  refine mX_to 1 (k' := 8) (ls' := [some (.ref 67), some (.int a1), some (.int x3), none, none, none]) (st' := [.int x3, .ref 83]) (h' := h2) rfl ?_
  refine mX_ckw (v := .long (gL h2 83 (ix x3))) (v' := .long (gL h2 83 (ix x3))) (k' := 9) (ls' := [some (.ref 67), some (.int a1), some (.int x3), none, none, none]) (st' := []) (h' := h2) (ckA0 (k_83 L2) (n_83 L2)) rfl rfl fun c8 => ?_
  refine mX_to 2 (k' := 11) (ls' := [some (.ref 67), some (.int a1), some (.int x3), none, none, none]) (st' := [.int (lg_cmp (gL h2 83 (ix x3)) 0)]) (h' := h2) rfl ?_
  refine mX_br (t := 22) (f := 12) (ls' := [some (.ref 67), some (.int a1), some (.int x3), none, none, none]) (st' := []) (h' := h2) rfl ?_ ?_
  · refine mX_to 1 (k' := 23) (ls' := [some (.ref 67), some (.int a1), some (.int x3), none, none, none]) (st' := [.int (-2)]) (h' := h2) rfl ?_
    exact mX_reti rfl
  · refine mX_to 3 (k' := 15) (ls' := [some (.ref 67), some (.int a1), some (.int x3), none, none, none]) (st' := [.ref 67, .int 0, .int a1]) (h' := h2) rfl ?_
    refine mX_ckv (v := .ref (gR h2 67 0)) (v' := .ref 68) (k' := 16) (ls' := [some (.ref 67), some (.int a1), some (.int x3), none, none, none]) (st' := [.int 0, .int a1]) (h' := h2) (k_67 L2) (congrArg Value.ref (r_67_0 L2)) rfl ?_
    refine mX_to 1 (k' := 17) (ls' := [some (.ref 67), some (.int a1), some (.int x3), none, none, none]) (st' := [.int 0, .ref 68, .int 0, .int a1]) (h' := h2) rfl ?_
    refine mX_ckv (v := .int (gI h2 68 (ix (0 : Int32)))) (v' := .int (gI h2 68 0)) (k' := 18) (ls' := [some (.ref 67), some (.int a1), some (.int x3), none, none, none]) (st' := [.int 0, .int a1]) (h' := h2) ((ckA1 (k_68 L2) (n_68 L2)).mpr (ib_lit (n := 0) rfl (by decide) (by decide))) (congrArg (fun j => Value.int (gI h2 68 j)) (ix_lit (n := 0) rfl (by decide))) rfl ?_
    refine mX_to 2 (k' := 20) (ls' := [some (.ref 67), some (.int a1), some (.int x3), none, none, none]) (st' := [.int ((gI h2 68 0) - 1), .int 0, .int a1]) (h' := h2) rfl ?_
    refine mX_cIe (o := F_X11_isIn d a1 0 ((gI h2 68 0) - 1) h2) (k' := 21) (ls' := [some (.ref 67), some (.int a1), some (.int x3), none, none, none]) (st' := []) rfl ?_
    intro x5 h4 eh4
    have L4 : lay h4 := lay_call d 14 [.int a1, .int 0, .int ((gI h2 68 0) - 1)] h2 _ h4 rfl eh4 L2
    refine mX_br (t := 22) (f := 24) (ls' := [some (.ref 67), some (.int a1), some (.int x3), none, none, none]) (st' := []) (h' := h4) rfl ?_ ?_
    · refine mX_to 1 (k' := 23) (ls' := [some (.ref 67), some (.int a1), some (.int x3), none, none, none]) (st' := [.int (-2)]) (h' := h4) rfl ?_
      exact mX_reti rfl
    · refine mX_to 1 (k' := 25) (ls' := [some (.ref 67), some (.int a1), some (.int x3), none, none, none]) (st' := [.ref 67]) (h' := h4) rfl ?_
      refine mX_ckct (m := mcl (mE mtab d 172 [.ref 67] h4) 1 26 [some (.ref 67), some (.int a1), some (.int x3), none, none, none] []) (k_67 L4) rfl ?_
      refine mk_cIe (o := F_X11_tipsNow d h4) ?_
      intro x7 h6 eh6
      have L6 : lay h6 := lay_call d 172 [.ref 67] h4 _ h6 rfl eh6 L4
      refine mX_to 5 (k' := 31) (ls' := [some (.ref 67), some (.int a1), some (.int x3), some (.int x7), some (.int 0), some (.int 0)]) (st' := []) (h' := h6) rfl ?_
      rfl
theorem S_X1_shareOf_4 {h : MH} (L : lay h) (d : Nat) (l1 : Int32) (l2 : Int32) (l3 : Int32) (l4 : Int32) (o5 : Option Value) (o6 : Option Value) : G_X1_shareOf_4 d l1 l2 l3 l4 o5 o6 h = (if l4 ≤ (gI h 63 4) then cI (F_X10_holds d l4 l1 h) (fun x2 h1 => (if x2 = 0 then cI (mE mtab d 259 [.int l4] h1) (fun x4 h3 => ck (ib x4 5) (ck (ib ((l2 - 1) - x4) 5) (lt_ ((gI h3 3 (ix x4)) * (gI h3 3 (ix ((l2 - 1) - x4)))) fun v5 => ck (ib (l4 ||| (1 <<< (l1 &&& 31))) 16) (ck (ib l4 16) (lt_ (l3 + (v5 * ((jabs (gI h3 64 (ix (l4 ||| (1 <<< (l1 &&& 31)))))) - (jabs (gI h3 64 (ix l4)))))) fun v6 => G_X1_shareOf_47 d l1 l2 v6 l4 (some (.int x4)) (some (.int v5)) h3))))) else G_X1_shareOf_47 d l1 l2 l3 l4 (o5) (o6) h1)) else some (.int l3, h)) := by
  refine mX_to 2 (k' := 6) (ls' := [some (.ref 63), some (.int l1), some (.int l2), some (.int l3), some (.int l4), o5, o6]) (st' := [.ref 63, .int l4]) (h' := h) rfl ?_
  refine mX_ckv (v := .int (gI h 63 4)) (v' := .int (gI h 63 4)) (k' := 7) (ls' := [some (.ref 63), some (.int l1), some (.int l2), some (.int l3), some (.int l4), o5, o6]) (st' := [.int l4]) (h' := h) (k_63 L) rfl rfl ?_
  refine mX_br (t := 8) (f := 49) (ls' := [some (.ref 63), some (.int l1), some (.int l2), some (.int l3), some (.int l4), o5, o6]) (st' := []) (h' := h) rfl ?_ ?_
  · refine mX_to 2 (k' := 10) (ls' := [some (.ref 63), some (.int l1), some (.int l2), some (.int l3), some (.int l4), o5, o6]) (st' := [.int l1, .int l4]) (h' := h) rfl ?_
    refine mX_cIe (o := F_X10_holds d l4 l1 h) (k' := 11) (ls' := [some (.ref 63), some (.int l1), some (.int l2), some (.int l3), some (.int l4), o5, o6]) (st' := []) rfl ?_
    intro x2 h1 eh1
    have L1 : lay h1 := lay_call d 257 [.int l4, .int l1] h _ h1 rfl eh1 L
    refine mX_br (t := 12) (f := 47) (ls' := [some (.ref 63), some (.int l1), some (.int l2), some (.int l3), some (.int l4), o5, o6]) (st' := []) (h' := h1) rfl ?_ ?_
    · refine mX_to 1 (k' := 13) (ls' := [some (.ref 63), some (.int l1), some (.int l2), some (.int l3), some (.int l4), o5, o6]) (st' := [.int l4]) (h' := h1) rfl ?_
      refine mX_cIe (o := mE mtab d 259 [.int l4] h1) (k' := 14) (ls' := [some (.ref 63), some (.int l1), some (.int l2), some (.int l3), some (.int l4), o5, o6]) (st' := []) rfl ?_
      intro x4 h3 eh3
      have L3 : lay h3 := lay_call d 259 [.int l4] h1 _ h3 rfl eh3 L1
      refine mX_to 3 (k' := 17) (ls' := [some (.ref 63), some (.int l1), some (.int l2), some (.int l3), some (.int l4), some (.int x4), o6]) (st' := [.int x4, .ref 3]) (h' := h3) rfl ?_
      refine mX_ckw (v := .int (gI h3 3 (ix x4))) (v' := .int (gI h3 3 (ix x4))) (k' := 18) (ls' := [some (.ref 63), some (.int l1), some (.int l2), some (.int l3), some (.int l4), some (.int x4), o6]) (st' := []) (h' := h3) (ckA2 (k_3 L3) (n_3 L3)) rfl rfl fun c10 => ?_
      refine mX_to 6 (k' := 24) (ls' := [some (.ref 63), some (.int l1), some (.int l2), some (.int l3), some (.int l4), some (.int x4), o6]) (st' := [.int ((l2 - 1) - x4), .ref 3, .int (gI h3 3 (ix x4))]) (h' := h3) rfl ?_
      refine mX_ckw (v := .int (gI h3 3 (ix ((l2 - 1) - x4)))) (v' := .int (gI h3 3 (ix ((l2 - 1) - x4)))) (k' := 25) (ls' := [some (.ref 63), some (.int l1), some (.int l2), some (.int l3), some (.int l4), some (.int x4), o6]) (st' := [.int (gI h3 3 (ix x4))]) (h' := h3) (ckA2 (k_3 L3) (n_3 L3)) rfl rfl fun c9 => ?_
      refine mX_to 1 (k' := 26) (ls' := [some (.ref 63), some (.int l1), some (.int l2), some (.int l3), some (.int l4), some (.int x4), o6]) (st' := [.int ((gI h3 3 (ix x4)) * (gI h3 3 (ix ((l2 - 1) - x4))))]) (h' := h3) rfl ?_
      refine lt_gen (X := fun v5 : Int32 => mX (mE mtab d) KX1_shareOf 26 [some (.ref 63), some (.int l1), some (.int l2), some (.int l3), some (.int l4), some (.int x4), o6] [.int v5] h3) fun v5 => ?_
      refine mX_to 4 (k' := 30) (ls' := [some (.ref 63), some (.int l1), some (.int l2), some (.int l3), some (.int l4), some (.int x4), some (.int v5)]) (st' := [.ref 63, .int v5, .int l3]) (h' := h3) rfl ?_
      refine mX_ckv (v := .ref (gR h3 63 0)) (v' := .ref 64) (k' := 31) (ls' := [some (.ref 63), some (.int l1), some (.int l2), some (.int l3), some (.int l4), some (.int x4), some (.int v5)]) (st' := [.int v5, .int l3]) (h' := h3) (k_63 L3) (congrArg Value.ref (r_63_0 L3)) rfl ?_
      refine mX_to 5 (k' := 36) (ls' := [some (.ref 63), some (.int l1), some (.int l2), some (.int l3), some (.int l4), some (.int x4), some (.int v5)]) (st' := [.int (l4 ||| (1 <<< (l1 &&& 31))), .ref 64, .int v5, .int l3]) (h' := h3) rfl ?_
      refine mX_ckw (v := .int (gI h3 64 (ix (l4 ||| (1 <<< (l1 &&& 31)))))) (v' := .int (gI h3 64 (ix (l4 ||| (1 <<< (l1 &&& 31)))))) (k' := 37) (ls' := [some (.ref 63), some (.int l1), some (.int l2), some (.int l3), some (.int l4), some (.int x4), some (.int v5)]) (st' := [.int v5, .int l3]) (h' := h3) (ckA1 (k_64 L3) (n_64 L3)) rfl rfl fun c8 => ?_
      refine mX_to 2 (k' := 39) (ls' := [some (.ref 63), some (.int l1), some (.int l2), some (.int l3), some (.int l4), some (.int x4), some (.int v5)]) (st' := [.ref 63, .int (jabs (gI h3 64 (ix (l4 ||| (1 <<< (l1 &&& 31)))))), .int v5, .int l3]) (h' := h3) rfl ?_
      refine mX_ckv (v := .ref (gR h3 63 0)) (v' := .ref 64) (k' := 40) (ls' := [some (.ref 63), some (.int l1), some (.int l2), some (.int l3), some (.int l4), some (.int x4), some (.int v5)]) (st' := [.int (jabs (gI h3 64 (ix (l4 ||| (1 <<< (l1 &&& 31)))))), .int v5, .int l3]) (h' := h3) (k_63 L3) (congrArg Value.ref (r_63_0 L3)) rfl ?_
      refine mX_to 1 (k' := 41) (ls' := [some (.ref 63), some (.int l1), some (.int l2), some (.int l3), some (.int l4), some (.int x4), some (.int v5)]) (st' := [.int l4, .ref 64, .int (jabs (gI h3 64 (ix (l4 ||| (1 <<< (l1 &&& 31)))))), .int v5, .int l3]) (h' := h3) rfl ?_
      refine mX_ckw (v := .int (gI h3 64 (ix l4))) (v' := .int (gI h3 64 (ix l4))) (k' := 42) (ls' := [some (.ref 63), some (.int l1), some (.int l2), some (.int l3), some (.int l4), some (.int x4), some (.int v5)]) (st' := [.int (jabs (gI h3 64 (ix (l4 ||| (1 <<< (l1 &&& 31)))))), .int v5, .int l3]) (h' := h3) (ckA1 (k_64 L3) (n_64 L3)) rfl rfl fun c7 => ?_
      refine mX_to 4 (k' := 46) (ls' := [some (.ref 63), some (.int l1), some (.int l2), some (.int l3), some (.int l4), some (.int x4), some (.int v5)]) (st' := [.int (l3 + (v5 * ((jabs (gI h3 64 (ix (l4 ||| (1 <<< (l1 &&& 31)))))) - (jabs (gI h3 64 (ix l4))))))]) (h' := h3) rfl ?_
      refine lt_gen (X := fun v6 : Int32 => mX (mE mtab d) KX1_shareOf 46 [some (.ref 63), some (.int l1), some (.int l2), some (.int l3), some (.int l4), some (.int x4), some (.int v5)] [.int v6] h3) fun v6 => ?_
      refine mX_to 1 (k' := 47) (ls' := [some (.ref 63), some (.int l1), some (.int l2), some (.int v6), some (.int l4), some (.int x4), some (.int v5)]) (st' := []) (h' := h3) rfl ?_
      rfl
    · rfl
  · refine mX_to 1 (k' := 50) (ls' := [some (.ref 63), some (.int l1), some (.int l2), some (.int l3), some (.int l4), o5, o6]) (st' := [.int l3]) (h' := h) rfl ?_
    exact mX_reti rfl
theorem S_X1_shareOf_47 {h : MH} (L : lay h) (d : Nat) (l1 : Int32) (l2 : Int32) (l3 : Int32) (l4 : Int32) (o5 : Option Value) (o6 : Option Value) : G_X1_shareOf_47 d l1 l2 l3 l4 o5 o6 h = G_X1_shareOf_4 d l1 l2 l3 (l4 + 1) (o5) (o6) h := by
  refine mX_to 2 (k' := 4) (ls' := [some (.ref 63), some (.int l1), some (.int l2), some (.int l3), some (.int (l4 + 1)), o5, o6]) (st' := []) (h' := h) rfl ?_
  rfl
theorem S_X1_shareOf {h : MH} (L : lay h) (d : Nat) (a1 : Int32) (a2 : Int32) : F_X1_shareOf (d + 1) a1 a2 h = G_X1_shareOf_4 d a1 a2 0 0 none none h := by
  refine mE_eq (q := (yX1_shareOf, cX1_shareOf, 7, (some .int), KX1_shareOf)) (C := KX1_shareOf) (ls := [some (.ref 63), some (.int a1), some (.int a2), none, none, none, none]) rfl rfl rfl rfl ?_
  refine mX_to 4 (k' := 4) (ls' := [some (.ref 63), some (.int a1), some (.int a2), some (.int 0), some (.int 0), none, none]) (st' := []) (h' := h) rfl ?_
  rfl
theorem S_X10_divisor_8 {h : MH} (L : lay h) (d : Nat) (l0 : Int32) (l1 : Int32) (l2 : Int32) (l3 : Int32) (l4 : Int32) (o5 : Option Value) : G_X10_divisor_8 d l0 l1 l2 l3 l4 o5 h = (if l4 < 64 then (if l3 = 0 then G_X10_divisor_23 d l0 l1 l2 l3 l4 (o5) h else ck (¬ l3 = 0) (lt_ (l2 - l2 / l3 * l3) fun v1 => G_X10_divisor_8 d l0 l1 l3 v1 (l4 + 1) (some (.int v1)) h)) else G_X10_divisor_23 d l0 l1 l2 l3 l4 (o5) h) := by
  refine mX_to 2 (k' := 10) (ls' := [some (.int l0), some (.int l1), some (.int l2), some (.int l3), some (.int l4), o5]) (st' := [.int 64, .int l4]) (h' := h) rfl ?_
  refine mX_br (t := 11) (f := 23) (ls' := [some (.int l0), some (.int l1), some (.int l2), some (.int l3), some (.int l4), o5]) (st' := []) (h' := h) rfl ?_ ?_
  · refine mX_to 1 (k' := 12) (ls' := [some (.int l0), some (.int l1), some (.int l2), some (.int l3), some (.int l4), o5]) (st' := [.int l3]) (h' := h) rfl ?_
    refine mX_br (t := 23) (f := 13) (ls' := [some (.int l0), some (.int l1), some (.int l2), some (.int l3), some (.int l4), o5]) (st' := []) (h' := h) rfl ?_ ?_
    · rfl
    · refine mX_to 2 (k' := 15) (ls' := [some (.int l0), some (.int l1), some (.int l2), some (.int l3), some (.int l4), o5]) (st' := [.int l3, .int l2]) (h' := h) rfl ?_
      refine mX_ck (k' := 16) (ls' := [some (.int l0), some (.int l1), some (.int l2), some (.int l3), some (.int l4), o5]) (st' := [.int (l2 - l2 / l3 * l3)]) (h' := h) rfl ?_
      refine lt_gen (X := fun v1 : Int32 => mX (mE mtab d) KX10_divisor 16 [some (.int l0), some (.int l1), some (.int l2), some (.int l3), some (.int l4), o5] [.int v1] h) fun v1 => ?_
      refine mX_to 7 (k' := 8) (ls' := [some (.int l0), some (.int l1), some (.int l3), some (.int v1), some (.int (l4 + 1)), some (.int v1)]) (st' := []) (h' := h) rfl ?_
      rfl
  · rfl
theorem S_X10_divisor_23 {h : MH} (L : lay h) (d : Nat) (l0 : Int32) (l1 : Int32) (l2 : Int32) (l3 : Int32) (l4 : Int32) (o5 : Option Value) : G_X10_divisor_23 d l0 l1 l2 l3 l4 o5 h = some (.int (jmax l2 1), h) := by
  refine mX_to 3 (k' := 26) (ls' := [some (.int l0), some (.int l1), some (.int l2), some (.int l3), some (.int l4), o5]) (st' := [.int (jmax l2 1)]) (h' := h) rfl ?_
  exact mX_reti rfl
theorem S_X10_divisor {h : MH} (L : lay h) (d : Nat) (a0 : Int32) (a1 : Int32) : F_X10_divisor (d + 1) a0 a1 h = G_X10_divisor_8 d a0 a1 (jabs a0) (jabs a1) 0 none h := by
  refine mE_eq (q := (yX10_divisor, cX10_divisor, 6, (some .int), KX10_divisor)) (C := KX10_divisor) (ls := [some (.int a0), some (.int a1), none, none, none, none]) rfl rfl rfl rfl ?_
  refine mX_to 8 (k' := 8) (ls' := [some (.int a0), some (.int a1), some (.int (jabs a0)), some (.int (jabs a1)), some (.int 0), none]) (st' := []) (h' := h) rfl ?_
  rfl
theorem S_X10_share_39 {h : MH} (L : lay h) (d : Nat) (l1 : Int32) (l2 : Int32) (l3 : Int32) (l4 : Int32) (l5 : Int32) (s0 : Int32) : G_X10_share_39 d l1 l2 l3 l4 l5 s0 h = ck (¬ l5 = 0) (some (.int (s0 / l5), h)) := by
  refine mX_to 1 (k' := 40) (ls' := [some (.ref 8), some (.int l1), some (.int l2), some (.int l3), some (.int l4), some (.int l5)]) (st' := [.int l5, .int s0]) (h' := h) rfl ?_
  refine mX_ck (k' := 41) (ls' := [some (.ref 8), some (.int l1), some (.int l2), some (.int l3), some (.int l4), some (.int l5)]) (st' := [.int (s0 / l5)]) (h' := h) rfl ?_
  exact mX_reti rfl
theorem S_X10_share {h : MH} (L : lay h) (d : Nat) (a1 : Int32) (a2 : Int32) : F_X10_share (d + 1) a1 a2 h = cI (F_X9_has d 10 a1 h) (fun x2 h1 => (if x2 = 0 then some (.int (-1000), h1) else cV (F_X1_weigh d h1) (fun h3 => ck (ib (gI h3 10 0) 5) (lt_ (gI h3 3 (ix (gI h3 10 0))) fun v4 => cI (F_X1_shareOf d a1 (gI h3 10 0) h3) (fun x6 h5 => cI (F_X10_divisor d x6 v4 h5) (fun x8 h7 => (if a2 = 0 then G_X10_share_39 d a1 a2 v4 x6 x8 x6 h7 else G_X10_share_39 d a1 a2 v4 x6 x8 v4 h7))))))) := by
  refine mE_eq (q := (yX10_share, cX10_share, 6, (some .int), KX10_share)) (C := KX10_share) (ls := [some (.ref 8), some (.int a1), some (.int a2), none, none, none]) rfl rfl rfl rfl ?_
  refine mX_to 1 (k' := 1) (ls' := [some (.ref 8), some (.int a1), some (.int a2), none, none, none]) (st' := [.ref 8]) (h' := h) rfl ?_
  refine mX_ckv (v := .ref (gR h 8 0)) (v' := .ref 9) (k' := 2) (ls' := [some (.ref 8), some (.int a1), some (.int a2), none, none, none]) (st' := []) (h' := h) (k_8 L) (congrArg Value.ref (r_8_0 L)) rfl ?_
  refine mX_ckv (v := .ref (gR h 9 0)) (v' := .ref 10) (k' := 3) (ls' := [some (.ref 8), some (.int a1), some (.int a2), none, none, none]) (st' := []) (h' := h) (k_9 L) (congrArg Value.ref (r_9_0 L)) rfl ?_
  refine mX_to 1 (k' := 4) (ls' := [some (.ref 8), some (.int a1), some (.int a2), none, none, none]) (st' := [.int a1, .ref 10]) (h' := h) rfl ?_
  refine mX_ckct (m := mcl (mE mtab d 17 [.ref 10, .int a1] h) 1 5 [some (.ref 8), some (.int a1), some (.int a2), none, none, none] []) (k_10 L) rfl ?_
  refine mk_cIe (o := F_X9_has d 10 a1 h) ?_
  intro x2 h1 eh1
  have L1 : lay h1 := lay_call d 17 [.ref 10, .int a1] h _ h1 rfl eh1 L
  refine mX_br (t := 6) (f := 8) (ls' := [some (.ref 8), some (.int a1), some (.int a2), none, none, none]) (st' := []) (h' := h1) rfl ?_ ?_
  · refine mX_to 1 (k' := 7) (ls' := [some (.ref 8), some (.int a1), some (.int a2), none, none, none]) (st' := [.int (-1000)]) (h' := h1) rfl ?_
    exact mX_reti rfl
  · refine mX_to 1 (k' := 9) (ls' := [some (.ref 8), some (.int a1), some (.int a2), none, none, none]) (st' := [.ref 8]) (h' := h1) rfl ?_
    refine mX_ckv (v := .ref (gR h1 8 6)) (v' := .ref 63) (k' := 10) (ls' := [some (.ref 8), some (.int a1), some (.int a2), none, none, none]) (st' := []) (h' := h1) (k_8 L1) (congrArg Value.ref (r_8_6 L1)) rfl ?_
    refine mX_to 1 (k' := 11) (ls' := [some (.ref 8), some (.int a1), some (.int a2), none, none, none]) (st' := [.ref 8, .ref 63]) (h' := h1) rfl ?_
    refine mX_ckv (v := .ref (gR h1 8 0)) (v' := .ref 9) (k' := 12) (ls' := [some (.ref 8), some (.int a1), some (.int a2), none, none, none]) (st' := [.ref 63]) (h' := h1) (k_8 L1) (congrArg Value.ref (r_8_0 L1)) rfl ?_
    refine mX_ckv (v := .ref (gR h1 9 0)) (v' := .ref 10) (k' := 13) (ls' := [some (.ref 8), some (.int a1), some (.int a2), none, none, none]) (st' := [.ref 63]) (h' := h1) (k_9 L1) (congrArg Value.ref (r_9_0 L1)) rfl ?_
    refine mX_ckct (m := mcl (mE mtab d 278 [.ref 63, .ref 10] h1) 0 14 [some (.ref 8), some (.int a1), some (.int a2), none, none, none] []) (k_63 L1) rfl ?_
    refine mk_cVe (o := F_X1_weigh d h1) ?_
    intro wh3 h3 eh3
    have L3 : lay h3 := lay_call d 278 [.ref 63, .ref 10] h1 _ h3 rfl eh3 L1
    refine mX_to 2 (k' := 16) (ls' := [some (.ref 8), some (.int a1), some (.int a2), none, none, none]) (st' := [.ref 8, .ref 3]) (h' := h3) rfl ?_
    refine mX_ckv (v := .ref (gR h3 8 0)) (v' := .ref 9) (k' := 17) (ls' := [some (.ref 8), some (.int a1), some (.int a2), none, none, none]) (st' := [.ref 3]) (h' := h3) (k_8 L3) (congrArg Value.ref (r_8_0 L3)) rfl ?_
    refine mX_ckv (v := .ref (gR h3 9 0)) (v' := .ref 10) (k' := 18) (ls' := [some (.ref 8), some (.int a1), some (.int a2), none, none, none]) (st' := [.ref 3]) (h' := h3) (k_9 L3) (congrArg Value.ref (r_9_0 L3)) rfl ?_
    refine mX_ckv (v := .int (gI h3 10 0)) (v' := .int (gI h3 10 0)) (k' := 19) (ls' := [some (.ref 8), some (.int a1), some (.int a2), none, none, none]) (st' := [.ref 3]) (h' := h3) (k_10 L3) rfl rfl ?_
    refine mX_ckw (v := .int (gI h3 3 (ix (gI h3 10 0)))) (v' := .int (gI h3 3 (ix (gI h3 10 0)))) (k' := 20) (ls' := [some (.ref 8), some (.int a1), some (.int a2), none, none, none]) (st' := []) (h' := h3) (ckA2 (k_3 L3) (n_3 L3)) rfl rfl fun c9 => ?_
    refine lt_gen (X := fun v4 : Int32 => mX (mE mtab d) KX10_share 20 [some (.ref 8), some (.int a1), some (.int a2), none, none, none] [.int v4] h3) fun v4 => ?_
    refine mX_to 2 (k' := 22) (ls' := [some (.ref 8), some (.int a1), some (.int a2), some (.int v4), none, none]) (st' := [.ref 8]) (h' := h3) rfl ?_
    refine mX_ckv (v := .ref (gR h3 8 6)) (v' := .ref 63) (k' := 23) (ls' := [some (.ref 8), some (.int a1), some (.int a2), some (.int v4), none, none]) (st' := []) (h' := h3) (k_8 L3) (congrArg Value.ref (r_8_6 L3)) rfl ?_
    refine mX_to 2 (k' := 25) (ls' := [some (.ref 8), some (.int a1), some (.int a2), some (.int v4), none, none]) (st' := [.ref 8, .int a1, .ref 63]) (h' := h3) rfl ?_
    refine mX_ckv (v := .ref (gR h3 8 0)) (v' := .ref 9) (k' := 26) (ls' := [some (.ref 8), some (.int a1), some (.int a2), some (.int v4), none, none]) (st' := [.int a1, .ref 63]) (h' := h3) (k_8 L3) (congrArg Value.ref (r_8_0 L3)) rfl ?_
    refine mX_ckv (v := .ref (gR h3 9 0)) (v' := .ref 10) (k' := 27) (ls' := [some (.ref 8), some (.int a1), some (.int a2), some (.int v4), none, none]) (st' := [.int a1, .ref 63]) (h' := h3) (k_9 L3) (congrArg Value.ref (r_9_0 L3)) rfl ?_
    refine mX_ckv (v := .int (gI h3 10 0)) (v' := .int (gI h3 10 0)) (k' := 28) (ls' := [some (.ref 8), some (.int a1), some (.int a2), some (.int v4), none, none]) (st' := [.int a1, .ref 63]) (h' := h3) (k_10 L3) rfl rfl ?_
    refine mX_ckct (m := mcl (mE mtab d 290 [.ref 63, .int a1, .int (gI h3 10 0)] h3) 1 29 [some (.ref 8), some (.int a1), some (.int a2), some (.int v4), none, none] []) (k_63 L3) rfl ?_
    refine mk_cIe (o := F_X1_shareOf d a1 (gI h3 10 0) h3) ?_
    intro x6 h5 eh5
    have L5 : lay h5 := lay_call d 290 [.ref 63, .int a1, .int (gI h3 10 0)] h3 _ h5 rfl eh5 L3
    refine mX_to 3 (k' := 32) (ls' := [some (.ref 8), some (.int a1), some (.int a2), some (.int v4), some (.int x6), none]) (st' := [.int v4, .int x6]) (h' := h5) rfl ?_
    refine mX_cIe (o := F_X10_divisor d x6 v4 h5) (k' := 33) (ls' := [some (.ref 8), some (.int a1), some (.int a2), some (.int v4), some (.int x6), none]) (st' := []) rfl ?_
    intro x8 h7 eh7
    have L7 : lay h7 := lay_call d 291 [.int x6, .int v4] h5 _ h7 rfl eh7 L5
    refine mX_to 2 (k' := 35) (ls' := [some (.ref 8), some (.int a1), some (.int a2), some (.int v4), some (.int x6), some (.int x8)]) (st' := [.int a2]) (h' := h7) rfl ?_
    refine mX_br (t := 38) (f := 36) (ls' := [some (.ref 8), some (.int a1), some (.int a2), some (.int v4), some (.int x6), some (.int x8)]) (st' := []) (h' := h7) rfl ?_ ?_
    · refine mX_to 1 (k' := 39) (ls' := [some (.ref 8), some (.int a1), some (.int a2), some (.int v4), some (.int x6), some (.int x8)]) (st' := [.int x6]) (h' := h7) rfl ?_
      rfl
    · refine mX_to 2 (k' := 39) (ls' := [some (.ref 8), some (.int a1), some (.int a2), some (.int v4), some (.int x6), some (.int x8)]) (st' := [.int v4]) (h' := h7) rfl ?_
      rfl
