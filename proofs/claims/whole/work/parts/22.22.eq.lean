--deps:19.lay 21.facts 22.00.names
/-! EQUATIONS over the fixed cells (written by wip/gen/sgen.py) -/
theorem S_X10_free_23 {h : MH} (L : lay h) (d : Nat) (l1 : Int32) (s0 : Int32) : G_X10_free_23 d l1 s0 h = cV (F_X9_copyFrom d 43 10 h) (fun h6 => cI (F_X9_go d 43 l1 1 h6) (fun x8 h7 => (if x8 = 0 then some (.int s0, h7) else some (.int (s0 + 2), h7)))) := by
  refine mX_to 2 (k' := 25) (ls' := [some (.ref 8), some (.int l1), some (.int s0)]) (st' := [.ref 8]) (h' := h) rfl ?_
  refine mX_ckv (v := .ref (gR h 8 2)) (v' := .ref 43) (k' := 26) (ls' := [some (.ref 8), some (.int l1), some (.int s0)]) (st' := []) (h' := h) (k_8 L) (congrArg Value.ref (r_8_2 L)) rfl ?_
  refine mX_to 1 (k' := 27) (ls' := [some (.ref 8), some (.int l1), some (.int s0)]) (st' := [.ref 8, .ref 43]) (h' := h) rfl ?_
  refine mX_ckv (v := .ref (gR h 8 0)) (v' := .ref 9) (k' := 28) (ls' := [some (.ref 8), some (.int l1), some (.int s0)]) (st' := [.ref 43]) (h' := h) (k_8 L) (congrArg Value.ref (r_8_0 L)) rfl ?_
  refine mX_ckv (v := .ref (gR h 9 0)) (v' := .ref 10) (k' := 29) (ls' := [some (.ref 8), some (.int l1), some (.int s0)]) (st' := [.ref 43]) (h' := h) (k_9 L) (congrArg Value.ref (r_9_0 L)) rfl ?_
  refine mX_ckct (m := mcl (mE mtab d 225 [.ref 43, .ref 10] h) 0 30 [some (.ref 8), some (.int l1), some (.int s0)] []) (k_43 L) rfl ?_
  refine mk_cVe (o := F_X9_copyFrom d 43 10 h) ?_
  intro wh6 h6 eh6
  have L6 : lay h6 := lay_call d 225 [.ref 43, .ref 10] h _ h6 rfl eh6 L
  refine mX_to 1 (k' := 31) (ls' := [some (.ref 8), some (.int l1), some (.int s0)]) (st' := [.ref 8]) (h' := h6) rfl ?_
  refine mX_ckv (v := .ref (gR h6 8 2)) (v' := .ref 43) (k' := 32) (ls' := [some (.ref 8), some (.int l1), some (.int s0)]) (st' := []) (h' := h6) (k_8 L6) (congrArg Value.ref (r_8_2 L6)) rfl ?_
  refine mX_to 2 (k' := 34) (ls' := [some (.ref 8), some (.int l1), some (.int s0)]) (st' := [.int 1, .int l1, .ref 43]) (h' := h6) rfl ?_
  refine mX_ckct (m := mcl (mE mtab d 147 [.ref 43, .int l1, .int 1] h6) 1 35 [some (.ref 8), some (.int l1), some (.int s0)] []) (k_43 L6) rfl ?_
  refine mk_cIe (o := F_X9_go d 43 l1 1 h6) ?_
  intro x8 h7 eh7
  have L7 : lay h7 := lay_call d 147 [.ref 43, .int l1, .int 1] h6 _ h7 rfl eh7 L6
  refine mX_br (t := 40) (f := 36) (ls' := [some (.ref 8), some (.int l1), some (.int s0)]) (st' := []) (h' := h7) rfl ?_ ?_
  · refine mX_to 1 (k' := 41) (ls' := [some (.ref 8), some (.int l1), some (.int s0)]) (st' := [.int s0]) (h' := h7) rfl ?_
    exact mX_reti rfl
  · refine mX_to 4 (k' := 41) (ls' := [some (.ref 8), some (.int l1), some (.int s0)]) (st' := [.int (s0 + 2)]) (h' := h7) rfl ?_
    exact mX_reti rfl
theorem S_X10_free {h : MH} (L : lay h) (d : Nat) (a1 : Int32) : F_X10_free (d + 1) a1 h = cI (F_X9_has d 10 a1 h) (fun x2 h1 => (if x2 = 0 then some (.int (-1), h1) else cV (F_X9_copyFrom d 43 10 h1) (fun h3 => cI (F_X9_go d 43 a1 0 h3) (fun x5 h4 => (if x5 = 0 then G_X10_free_23 d a1 0 h4 else G_X10_free_23 d a1 1 h4))))) := by
  refine mE_eq (q := (yX10_free, cX10_free, 3, (some .int), KX10_free)) (C := KX10_free) (ls := [some (.ref 8), some (.int a1), none]) rfl rfl rfl rfl ?_
  refine mX_to 1 (k' := 1) (ls' := [some (.ref 8), some (.int a1), none]) (st' := [.ref 8]) (h' := h) rfl ?_
  refine mX_ckv (v := .ref (gR h 8 0)) (v' := .ref 9) (k' := 2) (ls' := [some (.ref 8), some (.int a1), none]) (st' := []) (h' := h) (k_8 L) (congrArg Value.ref (r_8_0 L)) rfl ?_
  refine mX_ckv (v := .ref (gR h 9 0)) (v' := .ref 10) (k' := 3) (ls' := [some (.ref 8), some (.int a1), none]) (st' := []) (h' := h) (k_9 L) (congrArg Value.ref (r_9_0 L)) rfl ?_
  refine mX_to 1 (k' := 4) (ls' := [some (.ref 8), some (.int a1), none]) (st' := [.int a1, .ref 10]) (h' := h) rfl ?_
  refine mX_ckct (m := mcl (mE mtab d 17 [.ref 10, .int a1] h) 1 5 [some (.ref 8), some (.int a1), none] []) (k_10 L) rfl ?_
  refine mk_cIe (o := F_X9_has d 10 a1 h) ?_
  intro x2 h1 eh1
  have L1 : lay h1 := lay_call d 17 [.ref 10, .int a1] h _ h1 rfl eh1 L
  refine mX_br (t := 6) (f := 8) (ls' := [some (.ref 8), some (.int a1), none]) (st' := []) (h' := h1) rfl ?_ ?_
  · refine mX_to 1 (k' := 7) (ls' := [some (.ref 8), some (.int a1), none]) (st' := [.int (-1)]) (h' := h1) rfl ?_
    exact mX_reti rfl
  · refine mX_to 1 (k' := 9) (ls' := [some (.ref 8), some (.int a1), none]) (st' := [.ref 8]) (h' := h1) rfl ?_
    refine mX_ckv (v := .ref (gR h1 8 2)) (v' := .ref 43) (k' := 10) (ls' := [some (.ref 8), some (.int a1), none]) (st' := []) (h' := h1) (k_8 L1) (congrArg Value.ref (r_8_2 L1)) rfl ?_
    refine mX_to 1 (k' := 11) (ls' := [some (.ref 8), some (.int a1), none]) (st' := [.ref 8, .ref 43]) (h' := h1) rfl ?_
    refine mX_ckv (v := .ref (gR h1 8 0)) (v' := .ref 9) (k' := 12) (ls' := [some (.ref 8), some (.int a1), none]) (st' := [.ref 43]) (h' := h1) (k_8 L1) (congrArg Value.ref (r_8_0 L1)) rfl ?_
    refine mX_ckv (v := .ref (gR h1 9 0)) (v' := .ref 10) (k' := 13) (ls' := [some (.ref 8), some (.int a1), none]) (st' := [.ref 43]) (h' := h1) (k_9 L1) (congrArg Value.ref (r_9_0 L1)) rfl ?_
    refine mX_ckct (m := mcl (mE mtab d 225 [.ref 43, .ref 10] h1) 0 14 [some (.ref 8), some (.int a1), none] []) (k_43 L1) rfl ?_
    refine mk_cVe (o := F_X9_copyFrom d 43 10 h1) ?_
    intro wh3 h3 eh3
    have L3 : lay h3 := lay_call d 225 [.ref 43, .ref 10] h1 _ h3 rfl eh3 L1
    refine mX_to 1 (k' := 15) (ls' := [some (.ref 8), some (.int a1), none]) (st' := [.ref 8]) (h' := h3) rfl ?_
    refine mX_ckv (v := .ref (gR h3 8 2)) (v' := .ref 43) (k' := 16) (ls' := [some (.ref 8), some (.int a1), none]) (st' := []) (h' := h3) (k_8 L3) (congrArg Value.ref (r_8_2 L3)) rfl ?_
    refine mX_to 2 (k' := 18) (ls' := [some (.ref 8), some (.int a1), none]) (st' := [.int 0, .int a1, .ref 43]) (h' := h3) rfl ?_
    refine mX_ckct (m := mcl (mE mtab d 147 [.ref 43, .int a1, .int 0] h3) 1 19 [some (.ref 8), some (.int a1), none] []) (k_43 L3) rfl ?_
    refine mk_cIe (o := F_X9_go d 43 a1 0 h3) ?_
    intro x5 h4 eh4
    have L4 : lay h4 := lay_call d 147 [.ref 43, .int a1, .int 0] h3 _ h4 rfl eh4 L3
    refine mX_br (t := 22) (f := 20) (ls' := [some (.ref 8), some (.int a1), none]) (st' := []) (h' := h4) rfl ?_ ?_
    · refine mX_to 1 (k' := 23) (ls' := [some (.ref 8), some (.int a1), none]) (st' := [.int 0]) (h' := h4) rfl ?_
      rfl
    · refine mX_to 2 (k' := 23) (ls' := [some (.ref 8), some (.int a1), none]) (st' := [.int 1]) (h' := h4) rfl ?_
      rfl
theorem S_X11_free_12 {h : MH} (L : lay h) (d : Nat) (l1 : Int32) (s0 : Int32) : G_X11_free_12 d l1 s0 h = cI (F_X11_canWalk d l1 1 h) (fun x6 h5 => (if x6 = 0 then some (.int (s0 + 0), h5) else some (.int (s0 + 2), h5))) := by
  refine mX_to 3 (k' := 15) (ls' := [some (.ref 67), some (.int l1)]) (st' := [.int 1, .int l1, .ref 67, .int s0]) (h' := h) rfl ?_
  refine mX_ckct (m := mcl (mE mtab d 174 [.ref 67, .int l1, .int 1] h) 1 16 [some (.ref 67), some (.int l1)] [.int s0]) (k_67 L) rfl ?_
  refine mk_cIe (o := F_X11_canWalk d l1 1 h) ?_
  intro x6 h5 eh5
  have L5 : lay h5 := lay_call d 174 [.ref 67, .int l1, .int 1] h _ h5 rfl eh5 L
  refine mX_br (t := 19) (f := 17) (ls' := [some (.ref 67), some (.int l1)]) (st' := [.int s0]) (h' := h5) rfl ?_ ?_
  · refine mX_to 3 (k' := 23) (ls' := [some (.ref 67), some (.int l1)]) (st' := [.int (s0 + 0)]) (h' := h5) rfl ?_
    exact mX_reti rfl
  · refine mX_to 4 (k' := 23) (ls' := [some (.ref 67), some (.int l1)]) (st' := [.int (s0 + 2)]) (h' := h5) rfl ?_
    exact mX_reti rfl
theorem S_X11_free {h : MH} (L : lay h) (d : Nat) (a1 : Int32) : F_X11_free (d + 1) a1 h = cI (F_X11_isPerson d a1 h) (fun x2 h1 => (if x2 = 0 then some (.int (-1), h1) else cI (F_X11_canWalk d a1 0 h1) (fun x4 h3 => (if x4 = 0 then G_X11_free_12 d a1 0 h3 else G_X11_free_12 d a1 1 h3)))) := by
  refine mE_eq (q := (yX11_free, cX11_free, 2, (some .int), KX11_free)) (C := KX11_free) (ls := [some (.ref 67), some (.int a1)]) rfl rfl rfl rfl ?_
  refine mX_to 2 (k' := 2) (ls' := [some (.ref 67), some (.int a1)]) (st' := [.int a1, .ref 67]) (h' := h) rfl ?_
  refine mX_ckct (m := mcl (mE mtab d 20 [.ref 67, .int a1] h) 1 3 [some (.ref 67), some (.int a1)] []) (k_67 L) rfl ?_
  refine mk_cIe (o := F_X11_isPerson d a1 h) ?_
  intro x2 h1 eh1
  have L1 : lay h1 := lay_call d 20 [.ref 67, .int a1] h _ h1 rfl eh1 L
  refine mX_br (t := 22) (f := 4) (ls' := [some (.ref 67), some (.int a1)]) (st' := []) (h' := h1) rfl ?_ ?_
  · refine mX_to 1 (k' := 23) (ls' := [some (.ref 67), some (.int a1)]) (st' := [.int (-1)]) (h' := h1) rfl ?_
    exact mX_reti rfl
  · refine mX_to 3 (k' := 7) (ls' := [some (.ref 67), some (.int a1)]) (st' := [.int 0, .int a1, .ref 67]) (h' := h1) rfl ?_
    refine mX_ckct (m := mcl (mE mtab d 174 [.ref 67, .int a1, .int 0] h1) 1 8 [some (.ref 67), some (.int a1)] []) (k_67 L1) rfl ?_
    refine mk_cIe (o := F_X11_canWalk d a1 0 h1) ?_
    intro x4 h3 eh3
    have L3 : lay h3 := lay_call d 174 [.ref 67, .int a1, .int 0] h1 _ h3 rfl eh3 L1
    refine mX_br (t := 11) (f := 9) (ls' := [some (.ref 67), some (.int a1)]) (st' := []) (h' := h3) rfl ?_ ?_
    · refine mX_to 1 (k' := 12) (ls' := [some (.ref 67), some (.int a1)]) (st' := [.int 0]) (h' := h3) rfl ?_
      rfl
    · refine mX_to 2 (k' := 12) (ls' := [some (.ref 67), some (.int a1)]) (st' := [.int 1]) (h' := h3) rfl ?_
      rfl
theorem S_X10_lone_4 {h : MH} (L : lay h) (d : Nat) (l1 : Int32) (l2 : Int32) (o3 : Option Value) : G_X10_lone_4 d l1 l2 o3 h = (if l2 < 9 then cI (F_X9_peopleAt d 10 l2 h) (fun x2 h1 => cI (mE mtab d 259 [.int x2] h1) (fun x4 h3 => (if x4 = 1 then G_X10_lone_21 d (l1 ||| x2) l2 x2 h3 else G_X10_lone_21 d l1 l2 x2 h3))) else some (.int l1, h)) := by
  refine mX_to 2 (k' := 6) (ls' := [some (.ref 8), some (.int l1), some (.int l2), o3]) (st' := [.int 9, .int l2]) (h' := h) rfl ?_
  refine mX_br (t := 7) (f := 23) (ls' := [some (.ref 8), some (.int l1), some (.int l2), o3]) (st' := []) (h' := h) rfl ?_ ?_
  · refine mX_to 1 (k' := 8) (ls' := [some (.ref 8), some (.int l1), some (.int l2), o3]) (st' := [.ref 8]) (h' := h) rfl ?_
    refine mX_ckv (v := .ref (gR h 8 0)) (v' := .ref 9) (k' := 9) (ls' := [some (.ref 8), some (.int l1), some (.int l2), o3]) (st' := []) (h' := h) (k_8 L) (congrArg Value.ref (r_8_0 L)) rfl ?_
    refine mX_ckv (v := .ref (gR h 9 0)) (v' := .ref 10) (k' := 10) (ls' := [some (.ref 8), some (.int l1), some (.int l2), o3]) (st' := []) (h' := h) (k_9 L) (congrArg Value.ref (r_9_0 L)) rfl ?_
    refine mX_to 1 (k' := 11) (ls' := [some (.ref 8), some (.int l1), some (.int l2), o3]) (st' := [.int l2, .ref 10]) (h' := h) rfl ?_
    refine mX_ckct (m := mcl (mE mtab d 215 [.ref 10, .int l2] h) 1 12 [some (.ref 8), some (.int l1), some (.int l2), o3] []) (k_10 L) rfl ?_
    refine mk_cIe (o := F_X9_peopleAt d 10 l2 h) ?_
    intro x2 h1 eh1
    have L1 : lay h1 := lay_call d 215 [.ref 10, .int l2] h _ h1 rfl eh1 L
    refine mX_to 2 (k' := 14) (ls' := [some (.ref 8), some (.int l1), some (.int l2), some (.int x2)]) (st' := [.int x2]) (h' := h1) rfl ?_
    refine mX_cIe (o := mE mtab d 259 [.int x2] h1) (k' := 15) (ls' := [some (.ref 8), some (.int l1), some (.int l2), some (.int x2)]) (st' := []) rfl ?_
    intro x4 h3 eh3
    have L3 : lay h3 := lay_call d 259 [.int x2] h1 _ h3 rfl eh3 L1
    refine mX_to 1 (k' := 16) (ls' := [some (.ref 8), some (.int l1), some (.int l2), some (.int x2)]) (st' := [.int 1, .int x4]) (h' := h3) rfl ?_
    refine mX_br (t := 17) (f := 21) (ls' := [some (.ref 8), some (.int l1), some (.int l2), some (.int x2)]) (st' := []) (h' := h3) rfl ?_ ?_
    · refine mX_to 4 (k' := 21) (ls' := [some (.ref 8), some (.int (l1 ||| x2)), some (.int l2), some (.int x2)]) (st' := []) (h' := h3) rfl ?_
      rfl
    · rfl
  · refine mX_to 1 (k' := 24) (ls' := [some (.ref 8), some (.int l1), some (.int l2), o3]) (st' := [.int l1]) (h' := h) rfl ?_
    exact mX_reti rfl
theorem S_X10_lone_21 {h : MH} (L : lay h) (d : Nat) (l1 : Int32) (l2 : Int32) (l3 : Int32) : G_X10_lone_21 d l1 l2 l3 h = G_X10_lone_4 d l1 (l2 + 1) (some (.int l3)) h := by
  refine mX_to 2 (k' := 4) (ls' := [some (.ref 8), some (.int l1), some (.int (l2 + 1)), some (.int l3)]) (st' := []) (h' := h) rfl ?_
  rfl
theorem S_X10_lone {h : MH} (L : lay h) (d : Nat) : F_X10_lone (d + 1) h = G_X10_lone_4 d 0 0 none h := by
  refine mE_eq (q := (yX10_lone, cX10_lone, 4, (some .int), KX10_lone)) (C := KX10_lone) (ls := [some (.ref 8), none, none, none]) rfl rfl rfl rfl ?_
  refine mX_to 4 (k' := 4) (ls' := [some (.ref 8), some (.int 0), some (.int 0), none]) (st' := []) (h' := h) rfl ?_
  rfl
theorem S_X11_lone_4 {h : MH} (L : lay h) (d : Nat) (l1 : Int32) (l2 : Int32) : G_X11_lone_4 d l1 l2 h = (if l2 < (gI h 68 0) then ck (ib (9 + l2) 1498) (cI (F_X11_peopleIn d (gI h 68 (ix (9 + l2))) h) (fun x2 h1 => cI (F_X11_bits d x2 h1) (fun x4 h3 => (if x4 = 1 then G_X11_lone_27 d l1 l2 (1 <<< (l2 &&& 31)) l1 h3 else G_X11_lone_27 d l1 l2 0 l1 h3)))) else some (.int l1, h)) := by
  refine mX_to 2 (k' := 6) (ls' := [some (.ref 67), some (.int l1), some (.int l2)]) (st' := [.ref 67, .int l2]) (h' := h) rfl ?_
  refine mX_ckv (v := .ref (gR h 67 0)) (v' := .ref 68) (k' := 7) (ls' := [some (.ref 67), some (.int l1), some (.int l2)]) (st' := [.int l2]) (h' := h) (k_67 L) (congrArg Value.ref (r_67_0 L)) rfl ?_
  refine mX_to 1 (k' := 8) (ls' := [some (.ref 67), some (.int l1), some (.int l2)]) (st' := [.int 0, .ref 68, .int l2]) (h' := h) rfl ?_
  refine mX_ckv (v := .int (gI h 68 (ix (0 : Int32)))) (v' := .int (gI h 68 0)) (k' := 9) (ls' := [some (.ref 67), some (.int l1), some (.int l2)]) (st' := [.int l2]) (h' := h) ((ckA1 (k_68 L) (n_68 L)).mpr (ib_lit (n := 0) rfl (by decide) (by decide))) (congrArg (fun j => Value.int (gI h 68 j)) (ix_lit (n := 0) rfl (by decide))) rfl ?_
  refine mX_br (t := 10) (f := 31) (ls' := [some (.ref 67), some (.int l1), some (.int l2)]) (st' := []) (h' := h) rfl ?_ ?_
  · refine mX_to 3 (k' := 13) (ls' := [some (.ref 67), some (.int l1), some (.int l2)]) (st' := [.ref 67, .ref 67, .int l1]) (h' := h) rfl ?_
    refine mX_ckv (v := .ref (gR h 67 0)) (v' := .ref 68) (k' := 14) (ls' := [some (.ref 67), some (.int l1), some (.int l2)]) (st' := [.ref 67, .int l1]) (h' := h) (k_67 L) (congrArg Value.ref (r_67_0 L)) rfl ?_
    refine mX_to 3 (k' := 17) (ls' := [some (.ref 67), some (.int l1), some (.int l2)]) (st' := [.int (9 + l2), .ref 68, .ref 67, .int l1]) (h' := h) rfl ?_
    refine mX_ckw (v := .int (gI h 68 (ix (9 + l2)))) (v' := .int (gI h 68 (ix (9 + l2)))) (k' := 18) (ls' := [some (.ref 67), some (.int l1), some (.int l2)]) (st' := [.ref 67, .int l1]) (h' := h) (ckA1 (k_68 L) (n_68 L)) rfl rfl fun c5 => ?_
    refine mX_ckct (m := mcl (mE mtab d 161 [.ref 67, .int (gI h 68 (ix (9 + l2)))] h) 1 19 [some (.ref 67), some (.int l1), some (.int l2)] [.int l1]) (k_67 L) rfl ?_
    refine mk_cIe (o := F_X11_peopleIn d (gI h 68 (ix (9 + l2))) h) ?_
    intro x2 h1 eh1
    have L1 : lay h1 := lay_call d 161 [.ref 67, .int (gI h 68 (ix (9 + l2)))] h _ h1 rfl eh1 L
    refine mX_cIe (o := F_X11_bits d x2 h1) (k' := 20) (ls' := [some (.ref 67), some (.int l1), some (.int l2)]) (st' := [.int l1]) rfl ?_
    intro x4 h3 eh3
    have L3 : lay h3 := lay_call d 268 [.int x2] h1 _ h3 rfl eh3 L1
    refine mX_to 1 (k' := 21) (ls' := [some (.ref 67), some (.int l1), some (.int l2)]) (st' := [.int 1, .int x4, .int l1]) (h' := h3) rfl ?_
    refine mX_br (t := 22) (f := 26) (ls' := [some (.ref 67), some (.int l1), some (.int l2)]) (st' := [.int l1]) (h' := h3) rfl ?_ ?_
    · refine mX_to 4 (k' := 27) (ls' := [some (.ref 67), some (.int l1), some (.int l2)]) (st' := [.int (1 <<< (l2 &&& 31)), .int l1]) (h' := h3) rfl ?_
      rfl
    · refine mX_to 1 (k' := 27) (ls' := [some (.ref 67), some (.int l1), some (.int l2)]) (st' := [.int 0, .int l1]) (h' := h3) rfl ?_
      rfl
  · refine mX_to 1 (k' := 32) (ls' := [some (.ref 67), some (.int l1), some (.int l2)]) (st' := [.int l1]) (h' := h) rfl ?_
    exact mX_reti rfl
theorem S_X11_lone_27 {h : MH} (L : lay h) (d : Nat) (l1 : Int32) (l2 : Int32) (s0 : Int32) (s1 : Int32) : G_X11_lone_27 d l1 l2 s0 s1 h = G_X11_lone_4 d (s1 ||| s0) (l2 + 1) h := by
  refine mX_to 4 (k' := 4) (ls' := [some (.ref 67), some (.int (s1 ||| s0)), some (.int (l2 + 1))]) (st' := []) (h' := h) rfl ?_
  rfl
theorem S_X11_lone {h : MH} (L : lay h) (d : Nat) : F_X11_lone (d + 1) h = G_X11_lone_4 d 0 0 h := by
  refine mE_eq (q := (yX11_lone, cX11_lone, 3, (some .int), KX11_lone)) (C := KX11_lone) (ls := [some (.ref 67), none, none]) rfl rfl rfl rfl ?_
  refine mX_to 4 (k' := 4) (ls' := [some (.ref 67), some (.int 0), some (.int 0)]) (st' := []) (h' := h) rfl ?_
  rfl
theorem S_X10_heaviest_6 {h : MH} (L : lay h) (d : Nat) (l1 : Int32) (l2 : Int32) (l3 : Int32) (o4 : Option Value) : G_X10_heaviest_6 d l1 l2 l3 o4 h = (if l3 < 9 then cI (F_X9_weightAt d 10 l3 h) (fun x2 h1 => (if x2 ≤ l2 then G_X10_heaviest_22 d l1 l2 l3 x2 h1 else G_X10_heaviest_22 d l3 x2 l3 x2 h1)) else some (.int l1, h)) := by
  refine mX_to 2 (k' := 8) (ls' := [some (.ref 8), some (.int l1), some (.int l2), some (.int l3), o4]) (st' := [.int 9, .int l3]) (h' := h) rfl ?_
  refine mX_br (t := 9) (f := 24) (ls' := [some (.ref 8), some (.int l1), some (.int l2), some (.int l3), o4]) (st' := []) (h' := h) rfl ?_ ?_
  · refine mX_to 1 (k' := 10) (ls' := [some (.ref 8), some (.int l1), some (.int l2), some (.int l3), o4]) (st' := [.ref 8]) (h' := h) rfl ?_
    refine mX_ckv (v := .ref (gR h 8 0)) (v' := .ref 9) (k' := 11) (ls' := [some (.ref 8), some (.int l1), some (.int l2), some (.int l3), o4]) (st' := []) (h' := h) (k_8 L) (congrArg Value.ref (r_8_0 L)) rfl ?_
    refine mX_ckv (v := .ref (gR h 9 0)) (v' := .ref 10) (k' := 12) (ls' := [some (.ref 8), some (.int l1), some (.int l2), some (.int l3), o4]) (st' := []) (h' := h) (k_9 L) (congrArg Value.ref (r_9_0 L)) rfl ?_
    refine mX_to 1 (k' := 13) (ls' := [some (.ref 8), some (.int l1), some (.int l2), some (.int l3), o4]) (st' := [.int l3, .ref 10]) (h' := h) rfl ?_
    refine mX_ckct (m := mcl (mE mtab d 141 [.ref 10, .int l3] h) 1 14 [some (.ref 8), some (.int l1), some (.int l2), some (.int l3), o4] []) (k_10 L) rfl ?_
    refine mk_cIe (o := F_X9_weightAt d 10 l3 h) ?_
    intro x2 h1 eh1
    have L1 : lay h1 := lay_call d 141 [.ref 10, .int l3] h _ h1 rfl eh1 L
    refine mX_to 3 (k' := 17) (ls' := [some (.ref 8), some (.int l1), some (.int l2), some (.int l3), some (.int x2)]) (st' := [.int l2, .int x2]) (h' := h1) rfl ?_
    refine mX_br (t := 22) (f := 18) (ls' := [some (.ref 8), some (.int l1), some (.int l2), some (.int l3), some (.int x2)]) (st' := []) (h' := h1) rfl ?_ ?_
    · rfl
    · refine mX_to 4 (k' := 22) (ls' := [some (.ref 8), some (.int l3), some (.int x2), some (.int l3), some (.int x2)]) (st' := []) (h' := h1) rfl ?_
      rfl
  · refine mX_to 1 (k' := 25) (ls' := [some (.ref 8), some (.int l1), some (.int l2), some (.int l3), o4]) (st' := [.int l1]) (h' := h) rfl ?_
    exact mX_reti rfl
theorem S_X10_heaviest_22 {h : MH} (L : lay h) (d : Nat) (l1 : Int32) (l2 : Int32) (l3 : Int32) (l4 : Int32) : G_X10_heaviest_22 d l1 l2 l3 l4 h = G_X10_heaviest_6 d l1 l2 (l3 + 1) (some (.int l4)) h := by
  refine mX_to 2 (k' := 6) (ls' := [some (.ref 8), some (.int l1), some (.int l2), some (.int (l3 + 1)), some (.int l4)]) (st' := []) (h' := h) rfl ?_
  rfl
theorem S_X10_heaviest {h : MH} (L : lay h) (d : Nat) : F_X10_heaviest (d + 1) h = G_X10_heaviest_6 d (-1) 0 0 none h := by
  refine mE_eq (q := (yX10_heaviest, cX10_heaviest, 5, (some .int), KX10_heaviest)) (C := KX10_heaviest) (ls := [some (.ref 8), none, none, none, none]) rfl rfl rfl rfl ?_
  refine mX_to 6 (k' := 6) (ls' := [some (.ref 8), some (.int (-1)), some (.int 0), some (.int 0), none]) (st' := []) (h' := h) rfl ?_
  rfl
theorem S_X11_heaviest_4 {h : MH} (L : lay h) (d : Nat) (l1 : Int32) (l2 : Int32) : G_X11_heaviest_4 d l1 l2 h = (if l2 < 9 then cI (F_X11_loadOf d l2 h) (fun x2 h1 => (if l1 = (-1) then G_X11_heaviest_18 d l1 l2 0 x2 h1 else cI (F_X11_loadOf d l1 h1) (fun x4 h3 => G_X11_heaviest_18 d l1 l2 x4 x2 h3))) else some (.int l1, h)) := by
  refine mX_to 2 (k' := 6) (ls' := [some (.ref 67), some (.int l1), some (.int l2)]) (st' := [.int 9, .int l2]) (h' := h) rfl ?_
  refine mX_br (t := 7) (f := 23) (ls' := [some (.ref 67), some (.int l1), some (.int l2)]) (st' := []) (h' := h) rfl ?_ ?_
  · refine mX_to 2 (k' := 9) (ls' := [some (.ref 67), some (.int l1), some (.int l2)]) (st' := [.int l2, .ref 67]) (h' := h) rfl ?_
    refine mX_ckct (m := mcl (mE mtab d 162 [.ref 67, .int l2] h) 1 10 [some (.ref 67), some (.int l1), some (.int l2)] []) (k_67 L) rfl ?_
    refine mk_cIe (o := F_X11_loadOf d l2 h) ?_
    intro x2 h1 eh1
    have L1 : lay h1 := lay_call d 162 [.ref 67, .int l2] h _ h1 rfl eh1 L
    refine mX_to 2 (k' := 12) (ls' := [some (.ref 67), some (.int l1), some (.int l2)]) (st' := [.int (-1), .int l1, .int x2]) (h' := h1) rfl ?_
    refine mX_br (t := 13) (f := 15) (ls' := [some (.ref 67), some (.int l1), some (.int l2)]) (st' := [.int x2]) (h' := h1) rfl ?_ ?_
    · refine mX_to 2 (k' := 18) (ls' := [some (.ref 67), some (.int l1), some (.int l2)]) (st' := [.int 0, .int x2]) (h' := h1) rfl ?_
      rfl
    · refine mX_to 2 (k' := 17) (ls' := [some (.ref 67), some (.int l1), some (.int l2)]) (st' := [.int l1, .ref 67, .int x2]) (h' := h1) rfl ?_
      refine mX_ckct (m := mcl (mE mtab d 162 [.ref 67, .int l1] h1) 1 18 [some (.ref 67), some (.int l1), some (.int l2)] [.int x2]) (k_67 L1) rfl ?_
      refine mk_cIe (o := F_X11_loadOf d l1 h1) ?_
      intro x4 h3 eh3
      have L3 : lay h3 := lay_call d 162 [.ref 67, .int l1] h1 _ h3 rfl eh3 L1
      rfl
  · refine mX_to 1 (k' := 24) (ls' := [some (.ref 67), some (.int l1), some (.int l2)]) (st' := [.int l1]) (h' := h) rfl ?_
    exact mX_reti rfl
theorem S_X11_heaviest_18 {h : MH} (L : lay h) (d : Nat) (l1 : Int32) (l2 : Int32) (s0 : Int32) (s1 : Int32) : G_X11_heaviest_18 d l1 l2 s0 s1 h = (if s1 ≤ s0 then G_X11_heaviest_21 d l1 l2 h else G_X11_heaviest_21 d l2 l2 h) := by
  refine mX_br (t := 21) (f := 19) (ls' := [some (.ref 67), some (.int l1), some (.int l2)]) (st' := []) (h' := h) rfl ?_ ?_
  · rfl
  · refine mX_to 2 (k' := 21) (ls' := [some (.ref 67), some (.int l2), some (.int l2)]) (st' := []) (h' := h) rfl ?_
    rfl
theorem S_X11_heaviest_21 {h : MH} (L : lay h) (d : Nat) (l1 : Int32) (l2 : Int32) : G_X11_heaviest_21 d l1 l2 h = G_X11_heaviest_4 d l1 (l2 + 1) h := by
  refine mX_to 2 (k' := 4) (ls' := [some (.ref 67), some (.int l1), some (.int (l2 + 1))]) (st' := []) (h' := h) rfl ?_
  rfl
theorem S_X11_heaviest {h : MH} (L : lay h) (d : Nat) : F_X11_heaviest (d + 1) h = G_X11_heaviest_4 d (-1) 0 h := by
  refine mE_eq (q := (yX11_heaviest, cX11_heaviest, 3, (some .int), KX11_heaviest)) (C := KX11_heaviest) (ls := [some (.ref 67), none, none]) rfl rfl rfl rfl ?_
  refine mX_to 4 (k' := 4) (ls' := [some (.ref 67), some (.int (-1)), some (.int 0)]) (st' := []) (h' := h) rfl ?_
  rfl
theorem S_X9_timesWritten_4 {h : MH} (L : lay h) (d : Nat) (q : Nat) (T : tAt q) (l1 : Int32) (l2 : Int32) (l3 : Int32) : G_X9_timesWritten_4 d q l1 l2 l3 h = (if l3 < (gI h q 8) then cI (F_X9_entry d q l3 1 h) (fun x2 h1 => (if x2 = l1 then G_X9_timesWritten_15 d q l1 (l2 + 1) l3 h1 else G_X9_timesWritten_15 d q l1 l2 l3 h1)) else some (.int l2, h)) := by
  refine mX_to 2 (k' := 6) (ls' := [some (.ref q), some (.int l1), some (.int l2), some (.int l3)]) (st' := [.ref q, .int l3]) (h' := h) rfl ?_
  refine mX_ckv (v := .int (gI h q 8)) (v' := .int (gI h q 8)) (k' := 7) (ls' := [some (.ref q), some (.int l1), some (.int l2), some (.int l3)]) (st' := [.int l3]) (h' := h) (kT0 L T) rfl rfl ?_
  refine mX_br (t := 8) (f := 17) (ls' := [some (.ref q), some (.int l1), some (.int l2), some (.int l3)]) (st' := []) (h' := h) rfl ?_ ?_
  · refine mX_to 3 (k' := 11) (ls' := [some (.ref q), some (.int l1), some (.int l2), some (.int l3)]) (st' := [.int 1, .int l3, .ref q]) (h' := h) rfl ?_
    refine mX_ckct (m := mcl (mE mtab d 221 [.ref q, .int l3, .int 1] h) 1 12 [some (.ref q), some (.int l1), some (.int l2), some (.int l3)] []) (kT0 L T) rfl ?_
    refine mk_cIe (o := F_X9_entry d q l3 1 h) ?_
    intro x2 h1 eh1
    have L1 : lay h1 := lay_call d 221 [.ref q, .int l3, .int 1] h _ h1 rfl eh1 L
    refine mX_to 1 (k' := 13) (ls' := [some (.ref q), some (.int l1), some (.int l2), some (.int l3)]) (st' := [.int l1, .int x2]) (h' := h1) rfl ?_
    refine mX_br (t := 14) (f := 15) (ls' := [some (.ref q), some (.int l1), some (.int l2), some (.int l3)]) (st' := []) (h' := h1) rfl ?_ ?_
    · refine mX_to 1 (k' := 15) (ls' := [some (.ref q), some (.int l1), some (.int (l2 + 1)), some (.int l3)]) (st' := []) (h' := h1) rfl ?_
      rfl
    · rfl
  · refine mX_to 1 (k' := 18) (ls' := [some (.ref q), some (.int l1), some (.int l2), some (.int l3)]) (st' := [.int l2]) (h' := h) rfl ?_
    exact mX_reti rfl
theorem S_X9_timesWritten_15 {h : MH} (L : lay h) (d : Nat) (q : Nat) (T : tAt q) (l1 : Int32) (l2 : Int32) (l3 : Int32) : G_X9_timesWritten_15 d q l1 l2 l3 h = G_X9_timesWritten_4 d q l1 l2 (l3 + 1) h := by
  refine mX_to 2 (k' := 4) (ls' := [some (.ref q), some (.int l1), some (.int l2), some (.int (l3 + 1))]) (st' := []) (h' := h) rfl ?_
  rfl
theorem S_X9_timesWritten {h : MH} (L : lay h) (d : Nat) (q : Nat) (a1 : Int32) (T : tAt q) : F_X9_timesWritten (d + 1) q a1 h = G_X9_timesWritten_4 d q a1 0 0 h := by
  refine mE_eq (q := (yX9_timesWritten, cX9_timesWritten, 4, (some .int), KX9_timesWritten)) (C := KX9_timesWritten) (ls := [some (.ref q), some (.int a1), none, none]) rfl rfl rfl rfl ?_
  refine mX_to 4 (k' := 4) (ls' := [some (.ref q), some (.int a1), some (.int 0), some (.int 0)]) (st' := []) (h' := h) rfl ?_
  rfl
theorem S_X10_travelled_6 {h : MH} (L : lay h) (d : Nat) (l1 : Int32) (l2 : Int32) (l3 : Int32) (o4 : Option Value) : G_X10_travelled_6 d l1 l2 l3 o4 h = (if l3 < (gI h 10 0) then cI (F_X9_timesWritten d 10 l3 h) (fun x2 h1 => (if x2 ≤ l2 then G_X10_travelled_25 d l1 l2 l3 x2 h1 else G_X10_travelled_25 d l3 x2 l3 x2 h1)) else some (.int l1, h)) := by
  refine mX_to 2 (k' := 8) (ls' := [some (.ref 8), some (.int l1), some (.int l2), some (.int l3), o4]) (st' := [.ref 8, .int l3]) (h' := h) rfl ?_
  refine mX_ckv (v := .ref (gR h 8 0)) (v' := .ref 9) (k' := 9) (ls' := [some (.ref 8), some (.int l1), some (.int l2), some (.int l3), o4]) (st' := [.int l3]) (h' := h) (k_8 L) (congrArg Value.ref (r_8_0 L)) rfl ?_
  refine mX_ckv (v := .ref (gR h 9 0)) (v' := .ref 10) (k' := 10) (ls' := [some (.ref 8), some (.int l1), some (.int l2), some (.int l3), o4]) (st' := [.int l3]) (h' := h) (k_9 L) (congrArg Value.ref (r_9_0 L)) rfl ?_
  refine mX_ckv (v := .int (gI h 10 0)) (v' := .int (gI h 10 0)) (k' := 11) (ls' := [some (.ref 8), some (.int l1), some (.int l2), some (.int l3), o4]) (st' := [.int l3]) (h' := h) (k_10 L) rfl rfl ?_
  refine mX_br (t := 12) (f := 27) (ls' := [some (.ref 8), some (.int l1), some (.int l2), some (.int l3), o4]) (st' := []) (h' := h) rfl ?_ ?_
  · refine mX_to 1 (k' := 13) (ls' := [some (.ref 8), some (.int l1), some (.int l2), some (.int l3), o4]) (st' := [.ref 8]) (h' := h) rfl ?_
    refine mX_ckv (v := .ref (gR h 8 0)) (v' := .ref 9) (k' := 14) (ls' := [some (.ref 8), some (.int l1), some (.int l2), some (.int l3), o4]) (st' := []) (h' := h) (k_8 L) (congrArg Value.ref (r_8_0 L)) rfl ?_
    refine mX_ckv (v := .ref (gR h 9 0)) (v' := .ref 10) (k' := 15) (ls' := [some (.ref 8), some (.int l1), some (.int l2), some (.int l3), o4]) (st' := []) (h' := h) (k_9 L) (congrArg Value.ref (r_9_0 L)) rfl ?_
    refine mX_to 1 (k' := 16) (ls' := [some (.ref 8), some (.int l1), some (.int l2), some (.int l3), o4]) (st' := [.int l3, .ref 10]) (h' := h) rfl ?_
    refine mX_ckct (m := mcl (mE mtab d 323 [.ref 10, .int l3] h) 1 17 [some (.ref 8), some (.int l1), some (.int l2), some (.int l3), o4] []) (k_10 L) rfl ?_
    refine mk_cIe (o := F_X9_timesWritten d 10 l3 h) ?_
    intro x2 h1 eh1
    have L1 : lay h1 := lay_call d 323 [.ref 10, .int l3] h _ h1 rfl eh1 L
    refine mX_to 3 (k' := 20) (ls' := [some (.ref 8), some (.int l1), some (.int l2), some (.int l3), some (.int x2)]) (st' := [.int l2, .int x2]) (h' := h1) rfl ?_
    refine mX_br (t := 25) (f := 21) (ls' := [some (.ref 8), some (.int l1), some (.int l2), some (.int l3), some (.int x2)]) (st' := []) (h' := h1) rfl ?_ ?_
    · rfl
    · refine mX_to 4 (k' := 25) (ls' := [some (.ref 8), some (.int l3), some (.int x2), some (.int l3), some (.int x2)]) (st' := []) (h' := h1) rfl ?_
      rfl
  · refine mX_to 1 (k' := 28) (ls' := [some (.ref 8), some (.int l1), some (.int l2), some (.int l3), o4]) (st' := [.int l1]) (h' := h) rfl ?_
    exact mX_reti rfl
theorem S_X10_travelled_25 {h : MH} (L : lay h) (d : Nat) (l1 : Int32) (l2 : Int32) (l3 : Int32) (l4 : Int32) : G_X10_travelled_25 d l1 l2 l3 l4 h = G_X10_travelled_6 d l1 l2 (l3 + 1) (some (.int l4)) h := by
  refine mX_to 2 (k' := 6) (ls' := [some (.ref 8), some (.int l1), some (.int l2), some (.int (l3 + 1)), some (.int l4)]) (st' := []) (h' := h) rfl ?_
  rfl
theorem S_X10_travelled {h : MH} (L : lay h) (d : Nat) : F_X10_travelled (d + 1) h = G_X10_travelled_6 d (-1) 0 0 none h := by
  refine mE_eq (q := (yX10_travelled, cX10_travelled, 5, (some .int), KX10_travelled)) (C := KX10_travelled) (ls := [some (.ref 8), none, none, none, none]) rfl rfl rfl rfl ?_
  refine mX_to 6 (k' := 6) (ls' := [some (.ref 8), some (.int (-1)), some (.int 0), some (.int 0), none]) (st' := []) (h' := h) rfl ?_
  rfl
theorem S_X11_linesOf_4 {h : MH} (L : lay h) (d : Nat) (l1 : Int32) (l2 : Int32) (l3 : Int32) : G_X11_linesOf_4 d l1 l2 l3 h = (if l3 < (gI h 68 8) then (if l1 = (-1) then G_X11_linesOf_20 d l1 l2 l3 l2 h else cI (F_X11_entry d l3 1 h) (fun x2 h1 => (if x2 = l1 then G_X11_linesOf_20 d l1 l2 l3 l2 h1 else G_X11_linesOf_23 d l1 l2 l3 0 l2 h1))) else some (.int l2, h)) := by
  refine mX_to 2 (k' := 6) (ls' := [some (.ref 67), some (.int l1), some (.int l2), some (.int l3)]) (st' := [.ref 67, .int l3]) (h' := h) rfl ?_
  refine mX_ckv (v := .ref (gR h 67 0)) (v' := .ref 68) (k' := 7) (ls' := [some (.ref 67), some (.int l1), some (.int l2), some (.int l3)]) (st' := [.int l3]) (h' := h) (k_67 L) (congrArg Value.ref (r_67_0 L)) rfl ?_
  refine mX_to 1 (k' := 8) (ls' := [some (.ref 67), some (.int l1), some (.int l2), some (.int l3)]) (st' := [.int 8, .ref 68, .int l3]) (h' := h) rfl ?_
  refine mX_ckv (v := .int (gI h 68 (ix (8 : Int32)))) (v' := .int (gI h 68 8)) (k' := 9) (ls' := [some (.ref 67), some (.int l1), some (.int l2), some (.int l3)]) (st' := [.int l3]) (h' := h) ((ckA1 (k_68 L) (n_68 L)).mpr (ib_lit (n := 8) rfl (by decide) (by decide))) (congrArg (fun j => Value.int (gI h 68 j)) (ix_lit (n := 8) rfl (by decide))) rfl ?_
  refine mX_br (t := 10) (f := 27) (ls' := [some (.ref 67), some (.int l1), some (.int l2), some (.int l3)]) (st' := []) (h' := h) rfl ?_ ?_
  · refine mX_to 3 (k' := 13) (ls' := [some (.ref 67), some (.int l1), some (.int l2), some (.int l3)]) (st' := [.int (-1), .int l1, .int l2]) (h' := h) rfl ?_
    refine mX_br (t := 20) (f := 14) (ls' := [some (.ref 67), some (.int l1), some (.int l2), some (.int l3)]) (st' := [.int l2]) (h' := h) rfl ?_ ?_
    · rfl
    · refine mX_to 3 (k' := 17) (ls' := [some (.ref 67), some (.int l1), some (.int l2), some (.int l3)]) (st' := [.int 1, .int l3, .ref 67, .int l2]) (h' := h) rfl ?_
      refine mX_ckct (m := mcl (mE mtab d 223 [.ref 67, .int l3, .int 1] h) 1 18 [some (.ref 67), some (.int l1), some (.int l2), some (.int l3)] [.int l2]) (k_67 L) rfl ?_
      refine mk_cIe (o := F_X11_entry d l3 1 h) ?_
      intro x2 h1 eh1
      have L1 : lay h1 := lay_call d 223 [.ref 67, .int l3, .int 1] h _ h1 rfl eh1 L
      refine mX_to 1 (k' := 19) (ls' := [some (.ref 67), some (.int l1), some (.int l2), some (.int l3)]) (st' := [.int l1, .int x2, .int l2]) (h' := h1) rfl ?_
      refine mX_br (t := 20) (f := 22) (ls' := [some (.ref 67), some (.int l1), some (.int l2), some (.int l3)]) (st' := [.int l2]) (h' := h1) rfl ?_ ?_
      · rfl
      · refine mX_to 1 (k' := 23) (ls' := [some (.ref 67), some (.int l1), some (.int l2), some (.int l3)]) (st' := [.int 0, .int l2]) (h' := h1) rfl ?_
        rfl
  · refine mX_to 1 (k' := 28) (ls' := [some (.ref 67), some (.int l1), some (.int l2), some (.int l3)]) (st' := [.int l2]) (h' := h) rfl ?_
    exact mX_reti rfl
theorem S_X11_linesOf_20 {h : MH} (L : lay h) (d : Nat) (l1 : Int32) (l2 : Int32) (l3 : Int32) (s0 : Int32) : G_X11_linesOf_20 d l1 l2 l3 s0 h = G_X11_linesOf_23 d l1 l2 l3 1 s0 h := by
  refine mX_to 2 (k' := 23) (ls' := [some (.ref 67), some (.int l1), some (.int l2), some (.int l3)]) (st' := [.int 1, .int s0]) (h' := h) rfl ?_
  rfl
theorem S_X11_linesOf_23 {h : MH} (L : lay h) (d : Nat) (l1 : Int32) (l2 : Int32) (l3 : Int32) (s0 : Int32) (s1 : Int32) : G_X11_linesOf_23 d l1 l2 l3 s0 s1 h = G_X11_linesOf_4 d l1 (s1 + s0) (l3 + 1) h := by
  refine mX_to 4 (k' := 4) (ls' := [some (.ref 67), some (.int l1), some (.int (s1 + s0)), some (.int (l3 + 1))]) (st' := []) (h' := h) rfl ?_
  rfl
theorem S_X11_linesOf {h : MH} (L : lay h) (d : Nat) (a1 : Int32) : F_X11_linesOf (d + 1) a1 h = G_X11_linesOf_4 d a1 0 0 h := by
  refine mE_eq (q := (yX11_linesOf, cX11_linesOf, 4, (some .int), KX11_linesOf)) (C := KX11_linesOf) (ls := [some (.ref 67), some (.int a1), none, none]) rfl rfl rfl rfl ?_
  refine mX_to 4 (k' := 4) (ls' := [some (.ref 67), some (.int a1), some (.int 0), some (.int 0)]) (st' := []) (h' := h) rfl ?_
  rfl
theorem S_X11_travelled_4 {h : MH} (L : lay h) (d : Nat) (l1 : Int32) (l2 : Int32) : G_X11_travelled_4 d l1 l2 h = (if l2 < (gI h 68 0) then cI (F_X11_linesOf d l2 h) (fun x2 h1 => (if l1 = (-1) then G_X11_travelled_21 d l1 l2 0 x2 h1 else cI (F_X11_linesOf d l1 h1) (fun x4 h3 => G_X11_travelled_21 d l1 l2 x4 x2 h3))) else some (.int l1, h)) := by
  refine mX_to 2 (k' := 6) (ls' := [some (.ref 67), some (.int l1), some (.int l2)]) (st' := [.ref 67, .int l2]) (h' := h) rfl ?_
  refine mX_ckv (v := .ref (gR h 67 0)) (v' := .ref 68) (k' := 7) (ls' := [some (.ref 67), some (.int l1), some (.int l2)]) (st' := [.int l2]) (h' := h) (k_67 L) (congrArg Value.ref (r_67_0 L)) rfl ?_
  refine mX_to 1 (k' := 8) (ls' := [some (.ref 67), some (.int l1), some (.int l2)]) (st' := [.int 0, .ref 68, .int l2]) (h' := h) rfl ?_
  refine mX_ckv (v := .int (gI h 68 (ix (0 : Int32)))) (v' := .int (gI h 68 0)) (k' := 9) (ls' := [some (.ref 67), some (.int l1), some (.int l2)]) (st' := [.int l2]) (h' := h) ((ckA1 (k_68 L) (n_68 L)).mpr (ib_lit (n := 0) rfl (by decide) (by decide))) (congrArg (fun j => Value.int (gI h 68 j)) (ix_lit (n := 0) rfl (by decide))) rfl ?_
  refine mX_br (t := 10) (f := 26) (ls' := [some (.ref 67), some (.int l1), some (.int l2)]) (st' := []) (h' := h) rfl ?_ ?_
  · refine mX_to 2 (k' := 12) (ls' := [some (.ref 67), some (.int l1), some (.int l2)]) (st' := [.int l2, .ref 67]) (h' := h) rfl ?_
    refine mX_ckct (m := mcl (mE mtab d 325 [.ref 67, .int l2] h) 1 13 [some (.ref 67), some (.int l1), some (.int l2)] []) (k_67 L) rfl ?_
    refine mk_cIe (o := F_X11_linesOf d l2 h) ?_
    intro x2 h1 eh1
    have L1 : lay h1 := lay_call d 325 [.ref 67, .int l2] h _ h1 rfl eh1 L
    refine mX_to 2 (k' := 15) (ls' := [some (.ref 67), some (.int l1), some (.int l2)]) (st' := [.int (-1), .int l1, .int x2]) (h' := h1) rfl ?_
    refine mX_br (t := 16) (f := 18) (ls' := [some (.ref 67), some (.int l1), some (.int l2)]) (st' := [.int x2]) (h' := h1) rfl ?_ ?_
    · refine mX_to 2 (k' := 21) (ls' := [some (.ref 67), some (.int l1), some (.int l2)]) (st' := [.int 0, .int x2]) (h' := h1) rfl ?_
      rfl
    · refine mX_to 2 (k' := 20) (ls' := [some (.ref 67), some (.int l1), some (.int l2)]) (st' := [.int l1, .ref 67, .int x2]) (h' := h1) rfl ?_
      refine mX_ckct (m := mcl (mE mtab d 325 [.ref 67, .int l1] h1) 1 21 [some (.ref 67), some (.int l1), some (.int l2)] [.int x2]) (k_67 L1) rfl ?_
      refine mk_cIe (o := F_X11_linesOf d l1 h1) ?_
      intro x4 h3 eh3
      have L3 : lay h3 := lay_call d 325 [.ref 67, .int l1] h1 _ h3 rfl eh3 L1
      rfl
  · refine mX_to 1 (k' := 27) (ls' := [some (.ref 67), some (.int l1), some (.int l2)]) (st' := [.int l1]) (h' := h) rfl ?_
    exact mX_reti rfl
theorem S_X11_travelled_21 {h : MH} (L : lay h) (d : Nat) (l1 : Int32) (l2 : Int32) (s0 : Int32) (s1 : Int32) : G_X11_travelled_21 d l1 l2 s0 s1 h = (if s1 ≤ s0 then G_X11_travelled_24 d l1 l2 h else G_X11_travelled_24 d l2 l2 h) := by
  refine mX_br (t := 24) (f := 22) (ls' := [some (.ref 67), some (.int l1), some (.int l2)]) (st' := []) (h' := h) rfl ?_ ?_
  · rfl
  · refine mX_to 2 (k' := 24) (ls' := [some (.ref 67), some (.int l2), some (.int l2)]) (st' := []) (h' := h) rfl ?_
    rfl
theorem S_X11_travelled_24 {h : MH} (L : lay h) (d : Nat) (l1 : Int32) (l2 : Int32) : G_X11_travelled_24 d l1 l2 h = G_X11_travelled_4 d l1 (l2 + 1) h := by
  refine mX_to 2 (k' := 4) (ls' := [some (.ref 67), some (.int l1), some (.int (l2 + 1))]) (st' := []) (h' := h) rfl ?_
  rfl
theorem S_X11_travelled {h : MH} (L : lay h) (d : Nat) : F_X11_travelled (d + 1) h = G_X11_travelled_4 d (-1) 0 h := by
  refine mE_eq (q := (yX11_travelled, cX11_travelled, 3, (some .int), KX11_travelled)) (C := KX11_travelled) (ls := [some (.ref 67), none, none]) rfl rfl rfl rfl ?_
  refine mX_to 4 (k' := 4) (ls' := [some (.ref 67), some (.int (-1)), some (.int 0)]) (st' := []) (h' := h) rfl ?_
  rfl
theorem S_X10_ledger {h : MH} (L : lay h) (d : Nat) (a1 : Int32) : F_X10_ledger (d + 1) a1 h = (if a1 = (-1) then some (.int (gI h 10 8), h) else cI (F_X9_has d 10 a1 h) (fun x2 h1 => (if x2 = 0 then some (.int (-2), h1) else cI (F_X9_timesWritten d 10 a1 h1) (fun x4 h3 => some (.int x4, h3))))) := by
  refine mE_eq (q := (yX10_ledger, cX10_ledger, 2, (some .int), KX10_ledger)) (C := KX10_ledger) (ls := [some (.ref 8), some (.int a1)]) rfl rfl rfl rfl ?_
  refine mX_to 2 (k' := 2) (ls' := [some (.ref 8), some (.int a1)]) (st' := [.int (-1), .int a1]) (h' := h) rfl ?_
  refine mX_br (t := 3) (f := 8) (ls' := [some (.ref 8), some (.int a1)]) (st' := []) (h' := h) rfl ?_ ?_
  · refine mX_to 1 (k' := 4) (ls' := [some (.ref 8), some (.int a1)]) (st' := [.ref 8]) (h' := h) rfl ?_
    refine mX_ckv (v := .ref (gR h 8 0)) (v' := .ref 9) (k' := 5) (ls' := [some (.ref 8), some (.int a1)]) (st' := []) (h' := h) (k_8 L) (congrArg Value.ref (r_8_0 L)) rfl ?_
    refine mX_ckv (v := .ref (gR h 9 0)) (v' := .ref 10) (k' := 6) (ls' := [some (.ref 8), some (.int a1)]) (st' := []) (h' := h) (k_9 L) (congrArg Value.ref (r_9_0 L)) rfl ?_
    refine mX_ckv (v := .int (gI h 10 8)) (v' := .int (gI h 10 8)) (k' := 7) (ls' := [some (.ref 8), some (.int a1)]) (st' := []) (h' := h) (k_10 L) rfl rfl ?_
    exact mX_reti rfl
  · refine mX_to 1 (k' := 9) (ls' := [some (.ref 8), some (.int a1)]) (st' := [.ref 8]) (h' := h) rfl ?_
    refine mX_ckv (v := .ref (gR h 8 0)) (v' := .ref 9) (k' := 10) (ls' := [some (.ref 8), some (.int a1)]) (st' := []) (h' := h) (k_8 L) (congrArg Value.ref (r_8_0 L)) rfl ?_
    refine mX_ckv (v := .ref (gR h 9 0)) (v' := .ref 10) (k' := 11) (ls' := [some (.ref 8), some (.int a1)]) (st' := []) (h' := h) (k_9 L) (congrArg Value.ref (r_9_0 L)) rfl ?_
    refine mX_to 1 (k' := 12) (ls' := [some (.ref 8), some (.int a1)]) (st' := [.int a1, .ref 10]) (h' := h) rfl ?_
    refine mX_ckct (m := mcl (mE mtab d 17 [.ref 10, .int a1] h) 1 13 [some (.ref 8), some (.int a1)] []) (k_10 L) rfl ?_
    refine mk_cIe (o := F_X9_has d 10 a1 h) ?_
    intro x2 h1 eh1
    have L1 : lay h1 := lay_call d 17 [.ref 10, .int a1] h _ h1 rfl eh1 L
    refine mX_br (t := 20) (f := 14) (ls' := [some (.ref 8), some (.int a1)]) (st' := []) (h' := h1) rfl ?_ ?_
    · refine mX_to 1 (k' := 21) (ls' := [some (.ref 8), some (.int a1)]) (st' := [.int (-2)]) (h' := h1) rfl ?_
      exact mX_reti rfl
    · refine mX_to 1 (k' := 15) (ls' := [some (.ref 8), some (.int a1)]) (st' := [.ref 8]) (h' := h1) rfl ?_
      refine mX_ckv (v := .ref (gR h1 8 0)) (v' := .ref 9) (k' := 16) (ls' := [some (.ref 8), some (.int a1)]) (st' := []) (h' := h1) (k_8 L1) (congrArg Value.ref (r_8_0 L1)) rfl ?_
      refine mX_ckv (v := .ref (gR h1 9 0)) (v' := .ref 10) (k' := 17) (ls' := [some (.ref 8), some (.int a1)]) (st' := []) (h' := h1) (k_9 L1) (congrArg Value.ref (r_9_0 L1)) rfl ?_
      refine mX_to 1 (k' := 18) (ls' := [some (.ref 8), some (.int a1)]) (st' := [.int a1, .ref 10]) (h' := h1) rfl ?_
      refine mX_ckct (m := mcl (mE mtab d 323 [.ref 10, .int a1] h1) 1 19 [some (.ref 8), some (.int a1)] []) (k_10 L1) rfl ?_
      refine mk_cIe (o := F_X9_timesWritten d 10 a1 h1) ?_
      intro x4 h3 eh3
      have L3 : lay h3 := lay_call d 323 [.ref 10, .int a1] h1 _ h3 rfl eh3 L1
      refine mX_to 1 (k' := 21) (ls' := [some (.ref 8), some (.int a1)]) (st' := [.int x4]) (h' := h3) rfl ?_
      exact mX_reti rfl
theorem S_X11_ledger_7 {h : MH} (L : lay h) (d : Nat) (l1 : Int32) : G_X11_ledger_7 d l1 h = cI (F_X11_linesOf d l1 h) (fun x4 h3 => some (.int x4, h3)) := by
  refine mX_to 2 (k' := 9) (ls' := [some (.ref 67), some (.int l1)]) (st' := [.int l1, .ref 67]) (h' := h) rfl ?_
  refine mX_ckct (m := mcl (mE mtab d 325 [.ref 67, .int l1] h) 1 10 [some (.ref 67), some (.int l1)] []) (k_67 L) rfl ?_
  refine mk_cIe (o := F_X11_linesOf d l1 h) ?_
  intro x4 h3 eh3
  have L3 : lay h3 := lay_call d 325 [.ref 67, .int l1] h _ h3 rfl eh3 L
  refine mX_to 1 (k' := 12) (ls' := [some (.ref 67), some (.int l1)]) (st' := [.int x4]) (h' := h3) rfl ?_
  exact mX_reti rfl
theorem S_X11_ledger {h : MH} (L : lay h) (d : Nat) (a1 : Int32) : F_X11_ledger (d + 1) a1 h = (if a1 = (-1) then G_X11_ledger_7 d a1 h else cI (F_X11_isPerson d a1 h) (fun x2 h1 => (if x2 = 0 then some (.int (-2), h1) else G_X11_ledger_7 d a1 h1))) := by
  refine mE_eq (q := (yX11_ledger, cX11_ledger, 2, (some .int), KX11_ledger)) (C := KX11_ledger) (ls := [some (.ref 67), some (.int a1)]) rfl rfl rfl rfl ?_
  refine mX_to 2 (k' := 2) (ls' := [some (.ref 67), some (.int a1)]) (st' := [.int (-1), .int a1]) (h' := h) rfl ?_
  refine mX_br (t := 7) (f := 3) (ls' := [some (.ref 67), some (.int a1)]) (st' := []) (h' := h) rfl ?_ ?_
  · rfl
  · refine mX_to 2 (k' := 5) (ls' := [some (.ref 67), some (.int a1)]) (st' := [.int a1, .ref 67]) (h' := h) rfl ?_
    refine mX_ckct (m := mcl (mE mtab d 20 [.ref 67, .int a1] h) 1 6 [some (.ref 67), some (.int a1)] []) (k_67 L) rfl ?_
    refine mk_cIe (o := F_X11_isPerson d a1 h) ?_
    intro x2 h1 eh1
    have L1 : lay h1 := lay_call d 20 [.ref 67, .int a1] h _ h1 rfl eh1 L
    refine mX_br (t := 11) (f := 7) (ls' := [some (.ref 67), some (.int a1)]) (st' := []) (h' := h1) rfl ?_ ?_
    · refine mX_to 1 (k' := 12) (ls' := [some (.ref 67), some (.int a1)]) (st' := [.int (-2)]) (h' := h1) rfl ?_
      exact mX_reti rfl
    · rfl
theorem S_X6_copyFroma {h : MH} (L : lay h) (d : Nat) : F_X6_copyFroma (d + 1) h = lt_ (rI h 18 (va_cpy (gI h 35) (gI h 18) 0 0 1457)) fun h2 => lt_ (sI h2 17 1 (gI h2 34 1)) fun h4 => lt_ (sI h4 17 2 (gI h4 34 2)) fun h6 => some (.int 0, h6) := by
  refine mE_eq (q := (yX6_copyFrom, cX6_copyFrom, 2, none, KX6_copyFrom)) (C := KX6_copyFrom) (ls := [some (.ref 17), some (.ref 34)]) rfl rfl rfl rfl ?_
  refine mX_to 1 (k' := 1) (ls' := [some (.ref 17), some (.ref 34)]) (st' := [.ref 34]) (h' := h) rfl ?_
  refine mX_ckv (v := .ref (gR h 34 0)) (v' := .ref 35) (k' := 2) (ls' := [some (.ref 17), some (.ref 34)]) (st' := []) (h' := h) (k_34 L) (congrArg Value.ref (r_34_0 L)) rfl ?_
  refine mX_to 2 (k' := 4) (ls' := [some (.ref 17), some (.ref 34)]) (st' := [.ref 17, .int 0, .ref 35]) (h' := h) rfl ?_
  refine mX_ckv (v := .ref (gR h 17 0)) (v' := .ref 18) (k' := 5) (ls' := [some (.ref 17), some (.ref 34)]) (st' := [.int 0, .ref 35]) (h' := h) (k_17 L) (congrArg Value.ref (r_17_0 L)) rfl ?_
  refine mX_to 2 (k' := 7) (ls' := [some (.ref 17), some (.ref 34)]) (st' := [.int 1457, .int 0, .ref 18, .int 0, .ref 35]) (h' := h) rfl ?_
  refine mX_ckt (k' := 8) (ls' := [some (.ref 17), some (.ref 34)]) (st' := []) (h' := (rI h 18 (va_cpy (gI h 35) (gI h 18) (ix (0 : Int32)) (ix (0 : Int32)) (ix (1457 : Int32))))) (ckC (k_35 L) (k_18 L) (n_35 L) (n_18 L) (a := 0) (b := 0) (n := 1457) rfl rfl rfl (by decide)) rfl ?_
  refine lt_geq2 (X := fun h2 : MH => mX (mE mtab d) KX6_copyFrom 8 [some (.ref 17), some (.ref 34)] [] h2) (a := (rI h 18 (va_cpy (gI h 35) (gI h 18) (ix (0 : Int32)) (ix (0 : Int32)) (ix (1457 : Int32))))) (a' := (rI h 18 (va_cpy (gI h 35) (gI h 18) 0 0 1457))) (cpy_lit (a := 0) (b := 0) (n := 1457) rfl rfl rfl (by decide)) fun h2 eh2 => ?_
  have L2 : lay h2 := eh2 ▸ lay_rI L (by decide)
  refine mX_to 2 (k' := 10) (ls' := [some (.ref 17), some (.ref 34)]) (st' := [.ref 34, .ref 17]) (h' := h2) rfl ?_
  refine mX_ckv (v := .int (gI h2 34 1)) (v' := .int (gI h2 34 1)) (k' := 11) (ls' := [some (.ref 17), some (.ref 34)]) (st' := [.ref 17]) (h' := h2) (k_34 L2) rfl rfl ?_
  refine mX_ckt (k' := 12) (ls' := [some (.ref 17), some (.ref 34)]) (st' := []) (h' := (sI h2 17 1 (gI h2 34 1))) (k_17 L2) rfl ?_
  refine lt_geq2 (X := fun h4 : MH => mX (mE mtab d) KX6_copyFrom 12 [some (.ref 17), some (.ref 34)] [] h4) (a := (sI h2 17 1 (gI h2 34 1))) (a' := (sI h2 17 1 (gI h2 34 1))) rfl fun h4 eh4 => ?_
  have L4 : lay h4 := eh4 ▸ layI L2 (by decide)
  refine mX_to 2 (k' := 14) (ls' := [some (.ref 17), some (.ref 34)]) (st' := [.ref 34, .ref 17]) (h' := h4) rfl ?_
  refine mX_ckv (v := .int (gI h4 34 2)) (v' := .int (gI h4 34 2)) (k' := 15) (ls' := [some (.ref 17), some (.ref 34)]) (st' := [.ref 17]) (h' := h4) (k_34 L4) rfl rfl ?_
  refine mX_ckt (k' := 16) (ls' := [some (.ref 17), some (.ref 34)]) (st' := []) (h' := (sI h4 17 2 (gI h4 34 2))) (k_17 L4) rfl ?_
  refine lt_geq2 (X := fun h6 : MH => mX (mE mtab d) KX6_copyFrom 16 [some (.ref 17), some (.ref 34)] [] h6) (a := (sI h4 17 2 (gI h4 34 2))) (a' := (sI h4 17 2 (gI h4 34 2))) rfl fun h6 eh6 => ?_
  have L6 : lay h6 := eh6 ▸ layI L4 (by decide)
  exact mX_ret rfl
theorem S_X6_copyFromb {h : MH} (L : lay h) (d : Nat) : F_X6_copyFromb (d + 1) h = lt_ (rI h 35 (va_cpy (gI h 18) (gI h 35) 0 0 1457)) fun h2 => lt_ (sI h2 34 1 (gI h2 17 1)) fun h4 => lt_ (sI h4 34 2 (gI h4 17 2)) fun h6 => some (.int 0, h6) := by
  refine mE_eq (q := (yX6_copyFrom, cX6_copyFrom, 2, none, KX6_copyFrom)) (C := KX6_copyFrom) (ls := [some (.ref 34), some (.ref 17)]) rfl rfl rfl rfl ?_
  refine mX_to 1 (k' := 1) (ls' := [some (.ref 34), some (.ref 17)]) (st' := [.ref 17]) (h' := h) rfl ?_
  refine mX_ckv (v := .ref (gR h 17 0)) (v' := .ref 18) (k' := 2) (ls' := [some (.ref 34), some (.ref 17)]) (st' := []) (h' := h) (k_17 L) (congrArg Value.ref (r_17_0 L)) rfl ?_
  refine mX_to 2 (k' := 4) (ls' := [some (.ref 34), some (.ref 17)]) (st' := [.ref 34, .int 0, .ref 18]) (h' := h) rfl ?_
  refine mX_ckv (v := .ref (gR h 34 0)) (v' := .ref 35) (k' := 5) (ls' := [some (.ref 34), some (.ref 17)]) (st' := [.int 0, .ref 18]) (h' := h) (k_34 L) (congrArg Value.ref (r_34_0 L)) rfl ?_
  refine mX_to 2 (k' := 7) (ls' := [some (.ref 34), some (.ref 17)]) (st' := [.int 1457, .int 0, .ref 35, .int 0, .ref 18]) (h' := h) rfl ?_
  refine mX_ckt (k' := 8) (ls' := [some (.ref 34), some (.ref 17)]) (st' := []) (h' := (rI h 35 (va_cpy (gI h 18) (gI h 35) (ix (0 : Int32)) (ix (0 : Int32)) (ix (1457 : Int32))))) (ckC (k_18 L) (k_35 L) (n_18 L) (n_35 L) (a := 0) (b := 0) (n := 1457) rfl rfl rfl (by decide)) rfl ?_
  refine lt_geq2 (X := fun h2 : MH => mX (mE mtab d) KX6_copyFrom 8 [some (.ref 34), some (.ref 17)] [] h2) (a := (rI h 35 (va_cpy (gI h 18) (gI h 35) (ix (0 : Int32)) (ix (0 : Int32)) (ix (1457 : Int32))))) (a' := (rI h 35 (va_cpy (gI h 18) (gI h 35) 0 0 1457))) (cpy_lit (a := 0) (b := 0) (n := 1457) rfl rfl rfl (by decide)) fun h2 eh2 => ?_
  have L2 : lay h2 := eh2 ▸ lay_rI L (by decide)
  refine mX_to 2 (k' := 10) (ls' := [some (.ref 34), some (.ref 17)]) (st' := [.ref 17, .ref 34]) (h' := h2) rfl ?_
  refine mX_ckv (v := .int (gI h2 17 1)) (v' := .int (gI h2 17 1)) (k' := 11) (ls' := [some (.ref 34), some (.ref 17)]) (st' := [.ref 34]) (h' := h2) (k_17 L2) rfl rfl ?_
  refine mX_ckt (k' := 12) (ls' := [some (.ref 34), some (.ref 17)]) (st' := []) (h' := (sI h2 34 1 (gI h2 17 1))) (k_34 L2) rfl ?_
  refine lt_geq2 (X := fun h4 : MH => mX (mE mtab d) KX6_copyFrom 12 [some (.ref 34), some (.ref 17)] [] h4) (a := (sI h2 34 1 (gI h2 17 1))) (a' := (sI h2 34 1 (gI h2 17 1))) rfl fun h4 eh4 => ?_
  have L4 : lay h4 := eh4 ▸ layI L2 (by decide)
  refine mX_to 2 (k' := 14) (ls' := [some (.ref 34), some (.ref 17)]) (st' := [.ref 17, .ref 34]) (h' := h4) rfl ?_
  refine mX_ckv (v := .int (gI h4 17 2)) (v' := .int (gI h4 17 2)) (k' := 15) (ls' := [some (.ref 34), some (.ref 17)]) (st' := [.ref 34]) (h' := h4) (k_17 L4) rfl rfl ?_
  refine mX_ckt (k' := 16) (ls' := [some (.ref 34), some (.ref 17)]) (st' := []) (h' := (sI h4 34 2 (gI h4 17 2))) (k_34 L4) rfl ?_
  refine lt_geq2 (X := fun h6 : MH => mX (mE mtab d) KX6_copyFrom 16 [some (.ref 34), some (.ref 17)] [] h6) (a := (sI h4 34 2 (gI h4 17 2))) (a' := (sI h4 34 2 (gI h4 17 2))) rfl fun h6 eh6 => ?_
  have L6 : lay h6 := eh6 ▸ layI L4 (by decide)
  exact mX_ret rfl
theorem S_X2_copyFroma {h : MH} (L : lay h) (d : Nat) : F_X2_copyFroma (d + 1) h = lt_ (rI h 20 (va_cpy (gI h 37) (gI h 20) 0 0 4)) fun h2 => lt_ (rI h2 21 (va_cpy (gI h2 38) (gI h2 21) 0 0 4)) fun h4 => lt_ (sI h4 19 3 (gI h4 36 3)) fun h6 => some (.int 0, h6) := by
  refine mE_eq (q := (yX2_copyFrom, cX2_copyFrom, 2, none, KX2_copyFrom)) (C := KX2_copyFrom) (ls := [some (.ref 19), some (.ref 36)]) rfl rfl rfl rfl ?_
  refine mX_to 1 (k' := 1) (ls' := [some (.ref 19), some (.ref 36)]) (st' := [.ref 36]) (h' := h) rfl ?_
  refine mX_ckv (v := .ref (gR h 36 0)) (v' := .ref 37) (k' := 2) (ls' := [some (.ref 19), some (.ref 36)]) (st' := []) (h' := h) (k_36 L) (congrArg Value.ref (r_36_0 L)) rfl ?_
  refine mX_to 2 (k' := 4) (ls' := [some (.ref 19), some (.ref 36)]) (st' := [.ref 19, .int 0, .ref 37]) (h' := h) rfl ?_
  refine mX_ckv (v := .ref (gR h 19 0)) (v' := .ref 20) (k' := 5) (ls' := [some (.ref 19), some (.ref 36)]) (st' := [.int 0, .ref 37]) (h' := h) (k_19 L) (congrArg Value.ref (r_19_0 L)) rfl ?_
  refine mX_to 2 (k' := 7) (ls' := [some (.ref 19), some (.ref 36)]) (st' := [.int 4, .int 0, .ref 20, .int 0, .ref 37]) (h' := h) rfl ?_
  refine mX_ckt (k' := 8) (ls' := [some (.ref 19), some (.ref 36)]) (st' := []) (h' := (rI h 20 (va_cpy (gI h 37) (gI h 20) (ix (0 : Int32)) (ix (0 : Int32)) (ix (4 : Int32))))) (ckC (k_37 L) (k_20 L) (n_37 L) (n_20 L) (a := 0) (b := 0) (n := 4) rfl rfl rfl (by decide)) rfl ?_
  refine lt_geq2 (X := fun h2 : MH => mX (mE mtab d) KX2_copyFrom 8 [some (.ref 19), some (.ref 36)] [] h2) (a := (rI h 20 (va_cpy (gI h 37) (gI h 20) (ix (0 : Int32)) (ix (0 : Int32)) (ix (4 : Int32))))) (a' := (rI h 20 (va_cpy (gI h 37) (gI h 20) 0 0 4))) (cpy_lit (a := 0) (b := 0) (n := 4) rfl rfl rfl (by decide)) fun h2 eh2 => ?_
  have L2 : lay h2 := eh2 ▸ lay_rI L (by decide)
  refine mX_to 1 (k' := 9) (ls' := [some (.ref 19), some (.ref 36)]) (st' := [.ref 36]) (h' := h2) rfl ?_
  refine mX_ckv (v := .ref (gR h2 36 1)) (v' := .ref 38) (k' := 10) (ls' := [some (.ref 19), some (.ref 36)]) (st' := []) (h' := h2) (k_36 L2) (congrArg Value.ref (r_36_1 L2)) rfl ?_
  refine mX_to 2 (k' := 12) (ls' := [some (.ref 19), some (.ref 36)]) (st' := [.ref 19, .int 0, .ref 38]) (h' := h2) rfl ?_
  refine mX_ckv (v := .ref (gR h2 19 1)) (v' := .ref 21) (k' := 13) (ls' := [some (.ref 19), some (.ref 36)]) (st' := [.int 0, .ref 38]) (h' := h2) (k_19 L2) (congrArg Value.ref (r_19_1 L2)) rfl ?_
  refine mX_to 2 (k' := 15) (ls' := [some (.ref 19), some (.ref 36)]) (st' := [.int 4, .int 0, .ref 21, .int 0, .ref 38]) (h' := h2) rfl ?_
  refine mX_ckt (k' := 16) (ls' := [some (.ref 19), some (.ref 36)]) (st' := []) (h' := (rI h2 21 (va_cpy (gI h2 38) (gI h2 21) (ix (0 : Int32)) (ix (0 : Int32)) (ix (4 : Int32))))) (ckC (k_38 L2) (k_21 L2) (n_38 L2) (n_21 L2) (a := 0) (b := 0) (n := 4) rfl rfl rfl (by decide)) rfl ?_
  refine lt_geq2 (X := fun h4 : MH => mX (mE mtab d) KX2_copyFrom 16 [some (.ref 19), some (.ref 36)] [] h4) (a := (rI h2 21 (va_cpy (gI h2 38) (gI h2 21) (ix (0 : Int32)) (ix (0 : Int32)) (ix (4 : Int32))))) (a' := (rI h2 21 (va_cpy (gI h2 38) (gI h2 21) 0 0 4))) (cpy_lit (a := 0) (b := 0) (n := 4) rfl rfl rfl (by decide)) fun h4 eh4 => ?_
  have L4 : lay h4 := eh4 ▸ lay_rI L2 (by decide)
  refine mX_to 2 (k' := 18) (ls' := [some (.ref 19), some (.ref 36)]) (st' := [.ref 36, .ref 19]) (h' := h4) rfl ?_
  refine mX_ckv (v := .int (gI h4 36 3)) (v' := .int (gI h4 36 3)) (k' := 19) (ls' := [some (.ref 19), some (.ref 36)]) (st' := [.ref 19]) (h' := h4) (k_36 L4) rfl rfl ?_
  refine mX_ckt (k' := 20) (ls' := [some (.ref 19), some (.ref 36)]) (st' := []) (h' := (sI h4 19 3 (gI h4 36 3))) (k_19 L4) rfl ?_
  refine lt_geq2 (X := fun h6 : MH => mX (mE mtab d) KX2_copyFrom 20 [some (.ref 19), some (.ref 36)] [] h6) (a := (sI h4 19 3 (gI h4 36 3))) (a' := (sI h4 19 3 (gI h4 36 3))) rfl fun h6 eh6 => ?_
  have L6 : lay h6 := eh6 ▸ layI L4 (by decide)
  exact mX_ret rfl
theorem S_X2_copyFromb {h : MH} (L : lay h) (d : Nat) : F_X2_copyFromb (d + 1) h = lt_ (rI h 37 (va_cpy (gI h 20) (gI h 37) 0 0 4)) fun h2 => lt_ (rI h2 38 (va_cpy (gI h2 21) (gI h2 38) 0 0 4)) fun h4 => lt_ (sI h4 36 3 (gI h4 19 3)) fun h6 => some (.int 0, h6) := by
  refine mE_eq (q := (yX2_copyFrom, cX2_copyFrom, 2, none, KX2_copyFrom)) (C := KX2_copyFrom) (ls := [some (.ref 36), some (.ref 19)]) rfl rfl rfl rfl ?_
  refine mX_to 1 (k' := 1) (ls' := [some (.ref 36), some (.ref 19)]) (st' := [.ref 19]) (h' := h) rfl ?_
  refine mX_ckv (v := .ref (gR h 19 0)) (v' := .ref 20) (k' := 2) (ls' := [some (.ref 36), some (.ref 19)]) (st' := []) (h' := h) (k_19 L) (congrArg Value.ref (r_19_0 L)) rfl ?_
  refine mX_to 2 (k' := 4) (ls' := [some (.ref 36), some (.ref 19)]) (st' := [.ref 36, .int 0, .ref 20]) (h' := h) rfl ?_
  refine mX_ckv (v := .ref (gR h 36 0)) (v' := .ref 37) (k' := 5) (ls' := [some (.ref 36), some (.ref 19)]) (st' := [.int 0, .ref 20]) (h' := h) (k_36 L) (congrArg Value.ref (r_36_0 L)) rfl ?_
  refine mX_to 2 (k' := 7) (ls' := [some (.ref 36), some (.ref 19)]) (st' := [.int 4, .int 0, .ref 37, .int 0, .ref 20]) (h' := h) rfl ?_
  refine mX_ckt (k' := 8) (ls' := [some (.ref 36), some (.ref 19)]) (st' := []) (h' := (rI h 37 (va_cpy (gI h 20) (gI h 37) (ix (0 : Int32)) (ix (0 : Int32)) (ix (4 : Int32))))) (ckC (k_20 L) (k_37 L) (n_20 L) (n_37 L) (a := 0) (b := 0) (n := 4) rfl rfl rfl (by decide)) rfl ?_
  refine lt_geq2 (X := fun h2 : MH => mX (mE mtab d) KX2_copyFrom 8 [some (.ref 36), some (.ref 19)] [] h2) (a := (rI h 37 (va_cpy (gI h 20) (gI h 37) (ix (0 : Int32)) (ix (0 : Int32)) (ix (4 : Int32))))) (a' := (rI h 37 (va_cpy (gI h 20) (gI h 37) 0 0 4))) (cpy_lit (a := 0) (b := 0) (n := 4) rfl rfl rfl (by decide)) fun h2 eh2 => ?_
  have L2 : lay h2 := eh2 ▸ lay_rI L (by decide)
  refine mX_to 1 (k' := 9) (ls' := [some (.ref 36), some (.ref 19)]) (st' := [.ref 19]) (h' := h2) rfl ?_
  refine mX_ckv (v := .ref (gR h2 19 1)) (v' := .ref 21) (k' := 10) (ls' := [some (.ref 36), some (.ref 19)]) (st' := []) (h' := h2) (k_19 L2) (congrArg Value.ref (r_19_1 L2)) rfl ?_
  refine mX_to 2 (k' := 12) (ls' := [some (.ref 36), some (.ref 19)]) (st' := [.ref 36, .int 0, .ref 21]) (h' := h2) rfl ?_
  refine mX_ckv (v := .ref (gR h2 36 1)) (v' := .ref 38) (k' := 13) (ls' := [some (.ref 36), some (.ref 19)]) (st' := [.int 0, .ref 21]) (h' := h2) (k_36 L2) (congrArg Value.ref (r_36_1 L2)) rfl ?_
  refine mX_to 2 (k' := 15) (ls' := [some (.ref 36), some (.ref 19)]) (st' := [.int 4, .int 0, .ref 38, .int 0, .ref 21]) (h' := h2) rfl ?_
  refine mX_ckt (k' := 16) (ls' := [some (.ref 36), some (.ref 19)]) (st' := []) (h' := (rI h2 38 (va_cpy (gI h2 21) (gI h2 38) (ix (0 : Int32)) (ix (0 : Int32)) (ix (4 : Int32))))) (ckC (k_21 L2) (k_38 L2) (n_21 L2) (n_38 L2) (a := 0) (b := 0) (n := 4) rfl rfl rfl (by decide)) rfl ?_
  refine lt_geq2 (X := fun h4 : MH => mX (mE mtab d) KX2_copyFrom 16 [some (.ref 36), some (.ref 19)] [] h4) (a := (rI h2 38 (va_cpy (gI h2 21) (gI h2 38) (ix (0 : Int32)) (ix (0 : Int32)) (ix (4 : Int32))))) (a' := (rI h2 38 (va_cpy (gI h2 21) (gI h2 38) 0 0 4))) (cpy_lit (a := 0) (b := 0) (n := 4) rfl rfl rfl (by decide)) fun h4 eh4 => ?_
  have L4 : lay h4 := eh4 ▸ lay_rI L2 (by decide)
  refine mX_to 2 (k' := 18) (ls' := [some (.ref 36), some (.ref 19)]) (st' := [.ref 19, .ref 36]) (h' := h4) rfl ?_
  refine mX_ckv (v := .int (gI h4 19 3)) (v' := .int (gI h4 19 3)) (k' := 19) (ls' := [some (.ref 36), some (.ref 19)]) (st' := [.ref 36]) (h' := h4) (k_19 L4) rfl rfl ?_
  refine mX_ckt (k' := 20) (ls' := [some (.ref 36), some (.ref 19)]) (st' := []) (h' := (sI h4 36 3 (gI h4 19 3))) (k_36 L4) rfl ?_
  refine lt_geq2 (X := fun h6 : MH => mX (mE mtab d) KX2_copyFrom 20 [some (.ref 36), some (.ref 19)] [] h6) (a := (sI h4 36 3 (gI h4 19 3))) (a' := (sI h4 36 3 (gI h4 19 3))) rfl fun h6 eh6 => ?_
  have L6 : lay h6 := eh6 ▸ layI L4 (by decide)
  exact mX_ret rfl
theorem S_X0_copyFroma_17 {h : MH} (L : lay h) (d : Nat) (l2 : Int32) : G_X0_copyFroma_17 d l2 h = (if l2 < 4 then ck (ib l2 4) (ck (ib l2 4 ∧ ((gR h 40 (ix l2)) = 0 ∨ kd h (gR h 40 (ix l2)) = 9)) (lt_ (sR h 23 (ix l2) (gR h 40 (ix l2))) fun h5 => G_X0_copyFroma_17 d (l2 + 1) h5)) else lt_ (sI h 9 4 (gI h 26 4)) fun h8 => lt_ (sI h8 9 5 (gI h8 26 5)) fun h10 => lt_ (rI h10 24 (va_cpy (gI h10 41) (gI h10 24) 0 0 8)) fun h12 => lt_ (rI h12 25 (va_cpy (gI h12 42) (gI h12 25) 0 0 8)) fun h14 => lt_ (sI h14 9 8 (gI h14 26 8)) fun h16 => some (.int 0, h16)) := by
  refine mX_to 2 (k' := 19) (ls' := [some (.ref 9), some (.ref 26), some (.int l2)]) (st' := [.int 4, .int l2]) (h' := h) rfl ?_
  refine mX_br (t := 20) (f := 30) (ls' := [some (.ref 9), some (.ref 26), some (.int l2)]) (st' := []) (h' := h) rfl ?_ ?_
  · refine mX_to 1 (k' := 21) (ls' := [some (.ref 9), some (.ref 26), some (.int l2)]) (st' := [.ref 9]) (h' := h) rfl ?_
    refine mX_ckv (v := .ref (gR h 9 3)) (v' := .ref 23) (k' := 22) (ls' := [some (.ref 9), some (.ref 26), some (.int l2)]) (st' := []) (h' := h) (k_9 L) (congrArg Value.ref (r_9_3 L)) rfl ?_
    refine mX_to 2 (k' := 24) (ls' := [some (.ref 9), some (.ref 26), some (.int l2)]) (st' := [.ref 26, .int l2, .ref 23]) (h' := h) rfl ?_
    refine mX_ckv (v := .ref (gR h 26 3)) (v' := .ref 40) (k' := 25) (ls' := [some (.ref 9), some (.ref 26), some (.int l2)]) (st' := [.int l2, .ref 23]) (h' := h) (k_26 L) (congrArg Value.ref (r_26_3 L)) rfl ?_
    refine mX_to 1 (k' := 26) (ls' := [some (.ref 9), some (.ref 26), some (.int l2)]) (st' := [.int l2, .ref 40, .int l2, .ref 23]) (h' := h) rfl ?_
    refine mX_ckw (v := .ref (gR h 40 (ix l2))) (v' := .ref (gR h 40 (ix l2))) (k' := 27) (ls' := [some (.ref 9), some (.ref 26), some (.int l2)]) (st' := [.int l2, .ref 23]) (h' := h) (ckA0 (k_40 L) (n_40 L)) rfl rfl fun c6 => ?_
    refine mX_cki (k' := 28) (ls' := [some (.ref 9), some (.ref 26), some (.int l2)]) (st' := []) (h' := (sR h 23 (ix l2) (gR h 40 (ix l2)))) (ckA3 (k_23 L) (n_23 L)) rfl fun c4 => ?_
    refine lt_geq2 (X := fun h5 : MH => mX (mE mtab d) KX0_copyFrom 28 [some (.ref 9), some (.ref 26), some (.int l2)] [] h5) (a := (sR h 23 (ix l2) (gR h 40 (ix l2)))) (a' := (sR h 23 (ix l2) (gR h 40 (ix l2)))) rfl fun h5 eh5 => ?_
    have L5 : lay h5 := eh5 ▸ layRA L (by decide)
    refine mX_to 2 (k' := 17) (ls' := [some (.ref 9), some (.ref 26), some (.int (l2 + 1))]) (st' := []) (h' := h5) rfl ?_
    rfl
  · refine mX_to 2 (k' := 32) (ls' := [some (.ref 9), some (.ref 26), some (.int l2)]) (st' := [.ref 26, .ref 9]) (h' := h) rfl ?_
    refine mX_ckv (v := .int (gI h 26 4)) (v' := .int (gI h 26 4)) (k' := 33) (ls' := [some (.ref 9), some (.ref 26), some (.int l2)]) (st' := [.ref 9]) (h' := h) (k_26 L) rfl rfl ?_
    refine mX_ckt (k' := 34) (ls' := [some (.ref 9), some (.ref 26), some (.int l2)]) (st' := []) (h' := (sI h 9 4 (gI h 26 4))) (k_9 L) rfl ?_
    refine lt_geq2 (X := fun h8 : MH => mX (mE mtab d) KX0_copyFrom 34 [some (.ref 9), some (.ref 26), some (.int l2)] [] h8) (a := (sI h 9 4 (gI h 26 4))) (a' := (sI h 9 4 (gI h 26 4))) rfl fun h8 eh8 => ?_
    have L8 : lay h8 := eh8 ▸ layI L (by decide)
    refine mX_to 2 (k' := 36) (ls' := [some (.ref 9), some (.ref 26), some (.int l2)]) (st' := [.ref 26, .ref 9]) (h' := h8) rfl ?_
    refine mX_ckv (v := .int (gI h8 26 5)) (v' := .int (gI h8 26 5)) (k' := 37) (ls' := [some (.ref 9), some (.ref 26), some (.int l2)]) (st' := [.ref 9]) (h' := h8) (k_26 L8) rfl rfl ?_
    refine mX_ckt (k' := 38) (ls' := [some (.ref 9), some (.ref 26), some (.int l2)]) (st' := []) (h' := (sI h8 9 5 (gI h8 26 5))) (k_9 L8) rfl ?_
    refine lt_geq2 (X := fun h10 : MH => mX (mE mtab d) KX0_copyFrom 38 [some (.ref 9), some (.ref 26), some (.int l2)] [] h10) (a := (sI h8 9 5 (gI h8 26 5))) (a' := (sI h8 9 5 (gI h8 26 5))) rfl fun h10 eh10 => ?_
    have L10 : lay h10 := eh10 ▸ layI L8 (by decide)
    refine mX_to 1 (k' := 39) (ls' := [some (.ref 9), some (.ref 26), some (.int l2)]) (st' := [.ref 26]) (h' := h10) rfl ?_
    refine mX_ckv (v := .ref (gR h10 26 6)) (v' := .ref 41) (k' := 40) (ls' := [some (.ref 9), some (.ref 26), some (.int l2)]) (st' := []) (h' := h10) (k_26 L10) (congrArg Value.ref (r_26_6 L10)) rfl ?_
    refine mX_to 2 (k' := 42) (ls' := [some (.ref 9), some (.ref 26), some (.int l2)]) (st' := [.ref 9, .int 0, .ref 41]) (h' := h10) rfl ?_
    refine mX_ckv (v := .ref (gR h10 9 6)) (v' := .ref 24) (k' := 43) (ls' := [some (.ref 9), some (.ref 26), some (.int l2)]) (st' := [.int 0, .ref 41]) (h' := h10) (k_9 L10) (congrArg Value.ref (r_9_6 L10)) rfl ?_
    refine mX_to 2 (k' := 45) (ls' := [some (.ref 9), some (.ref 26), some (.int l2)]) (st' := [.int 8, .int 0, .ref 24, .int 0, .ref 41]) (h' := h10) rfl ?_
    refine mX_ckt (k' := 46) (ls' := [some (.ref 9), some (.ref 26), some (.int l2)]) (st' := []) (h' := (rI h10 24 (va_cpy (gI h10 41) (gI h10 24) (ix (0 : Int32)) (ix (0 : Int32)) (ix (8 : Int32))))) (ckC (k_41 L10) (k_24 L10) (n_41 L10) (n_24 L10) (a := 0) (b := 0) (n := 8) rfl rfl rfl (by decide)) rfl ?_
    refine lt_geq2 (X := fun h12 : MH => mX (mE mtab d) KX0_copyFrom 46 [some (.ref 9), some (.ref 26), some (.int l2)] [] h12) (a := (rI h10 24 (va_cpy (gI h10 41) (gI h10 24) (ix (0 : Int32)) (ix (0 : Int32)) (ix (8 : Int32))))) (a' := (rI h10 24 (va_cpy (gI h10 41) (gI h10 24) 0 0 8))) (cpy_lit (a := 0) (b := 0) (n := 8) rfl rfl rfl (by decide)) fun h12 eh12 => ?_
    have L12 : lay h12 := eh12 ▸ lay_rI L10 (by decide)
    refine mX_to 1 (k' := 47) (ls' := [some (.ref 9), some (.ref 26), some (.int l2)]) (st' := [.ref 26]) (h' := h12) rfl ?_
    refine mX_ckv (v := .ref (gR h12 26 7)) (v' := .ref 42) (k' := 48) (ls' := [some (.ref 9), some (.ref 26), some (.int l2)]) (st' := []) (h' := h12) (k_26 L12) (congrArg Value.ref (r_26_7 L12)) rfl ?_
    refine mX_to 2 (k' := 50) (ls' := [some (.ref 9), some (.ref 26), some (.int l2)]) (st' := [.ref 9, .int 0, .ref 42]) (h' := h12) rfl ?_
    refine mX_ckv (v := .ref (gR h12 9 7)) (v' := .ref 25) (k' := 51) (ls' := [some (.ref 9), some (.ref 26), some (.int l2)]) (st' := [.int 0, .ref 42]) (h' := h12) (k_9 L12) (congrArg Value.ref (r_9_7 L12)) rfl ?_
    refine mX_to 2 (k' := 53) (ls' := [some (.ref 9), some (.ref 26), some (.int l2)]) (st' := [.int 8, .int 0, .ref 25, .int 0, .ref 42]) (h' := h12) rfl ?_
    refine mX_ckt (k' := 54) (ls' := [some (.ref 9), some (.ref 26), some (.int l2)]) (st' := []) (h' := (rI h12 25 (va_cpy (gI h12 42) (gI h12 25) (ix (0 : Int32)) (ix (0 : Int32)) (ix (8 : Int32))))) (ckC (k_42 L12) (k_25 L12) (n_42 L12) (n_25 L12) (a := 0) (b := 0) (n := 8) rfl rfl rfl (by decide)) rfl ?_
    refine lt_geq2 (X := fun h14 : MH => mX (mE mtab d) KX0_copyFrom 54 [some (.ref 9), some (.ref 26), some (.int l2)] [] h14) (a := (rI h12 25 (va_cpy (gI h12 42) (gI h12 25) (ix (0 : Int32)) (ix (0 : Int32)) (ix (8 : Int32))))) (a' := (rI h12 25 (va_cpy (gI h12 42) (gI h12 25) 0 0 8))) (cpy_lit (a := 0) (b := 0) (n := 8) rfl rfl rfl (by decide)) fun h14 eh14 => ?_
    have L14 : lay h14 := eh14 ▸ lay_rI L12 (by decide)
    refine mX_to 2 (k' := 56) (ls' := [some (.ref 9), some (.ref 26), some (.int l2)]) (st' := [.ref 26, .ref 9]) (h' := h14) rfl ?_
    refine mX_ckv (v := .int (gI h14 26 8)) (v' := .int (gI h14 26 8)) (k' := 57) (ls' := [some (.ref 9), some (.ref 26), some (.int l2)]) (st' := [.ref 9]) (h' := h14) (k_26 L14) rfl rfl ?_
    refine mX_ckt (k' := 58) (ls' := [some (.ref 9), some (.ref 26), some (.int l2)]) (st' := []) (h' := (sI h14 9 8 (gI h14 26 8))) (k_9 L14) rfl ?_
    refine lt_geq2 (X := fun h16 : MH => mX (mE mtab d) KX0_copyFrom 58 [some (.ref 9), some (.ref 26), some (.int l2)] [] h16) (a := (sI h14 9 8 (gI h14 26 8))) (a' := (sI h14 9 8 (gI h14 26 8))) rfl fun h16 eh16 => ?_
    have L16 : lay h16 := eh16 ▸ layI L14 (by decide)
    exact mX_ret rfl
theorem S_X0_copyFroma {h : MH} (L : lay h) (d : Nat) : F_X0_copyFroma (d + 1) h = cV (F_X9_copyFrom d 10 27 h) (fun h1 => cV (F_X6_copyFroma d h1) (fun h2 => cV (F_X2_copyFroma d h2) (fun h3 => G_X0_copyFroma_17 d 0 h3))) := by
  refine mE_eq (q := (yX0_copyFrom, cX0_copyFrom, 3, none, KX0_copyFrom)) (C := KX0_copyFrom) (ls := [some (.ref 9), some (.ref 26), none]) rfl rfl rfl rfl ?_
  refine mX_to 1 (k' := 1) (ls' := [some (.ref 9), some (.ref 26), none]) (st' := [.ref 9]) (h' := h) rfl ?_
  refine mX_ckv (v := .ref (gR h 9 0)) (v' := .ref 10) (k' := 2) (ls' := [some (.ref 9), some (.ref 26), none]) (st' := []) (h' := h) (k_9 L) (congrArg Value.ref (r_9_0 L)) rfl ?_
  refine mX_to 1 (k' := 3) (ls' := [some (.ref 9), some (.ref 26), none]) (st' := [.ref 26, .ref 10]) (h' := h) rfl ?_
  refine mX_ckv (v := .ref (gR h 26 0)) (v' := .ref 27) (k' := 4) (ls' := [some (.ref 9), some (.ref 26), none]) (st' := [.ref 10]) (h' := h) (k_26 L) (congrArg Value.ref (r_26_0 L)) rfl ?_
  refine mX_ckct (m := mcl (mE mtab d 225 [.ref 10, .ref 27] h) 0 5 [some (.ref 9), some (.ref 26), none] []) (k_10 L) rfl ?_
  refine mk_cVe (o := F_X9_copyFrom d 10 27 h) ?_
  intro wh1 h1 eh1
  have L1 : lay h1 := lay_call d 225 [.ref 10, .ref 27] h _ h1 rfl eh1 L
  refine mX_to 1 (k' := 6) (ls' := [some (.ref 9), some (.ref 26), none]) (st' := [.ref 9]) (h' := h1) rfl ?_
  refine mX_ckv (v := .ref (gR h1 9 1)) (v' := .ref 17) (k' := 7) (ls' := [some (.ref 9), some (.ref 26), none]) (st' := []) (h' := h1) (k_9 L1) (congrArg Value.ref (r_9_1 L1)) rfl ?_
  refine mX_to 1 (k' := 8) (ls' := [some (.ref 9), some (.ref 26), none]) (st' := [.ref 26, .ref 17]) (h' := h1) rfl ?_
  refine mX_ckv (v := .ref (gR h1 26 1)) (v' := .ref 34) (k' := 9) (ls' := [some (.ref 9), some (.ref 26), none]) (st' := [.ref 17]) (h' := h1) (k_26 L1) (congrArg Value.ref (r_26_1 L1)) rfl ?_
  refine mX_ckct (m := mcl (mE mtab d 329 [.ref 17, .ref 34] h1) 0 10 [some (.ref 9), some (.ref 26), none] []) (k_17 L1) rfl ?_
  refine mk_cVe (o := F_X6_copyFroma d h1) ?_
  intro wh2 h2 eh2
  have L2 : lay h2 := lay_call d 329 [.ref 17, .ref 34] h1 _ h2 rfl eh2 L1
  refine mX_to 1 (k' := 11) (ls' := [some (.ref 9), some (.ref 26), none]) (st' := [.ref 9]) (h' := h2) rfl ?_
  refine mX_ckv (v := .ref (gR h2 9 2)) (v' := .ref 19) (k' := 12) (ls' := [some (.ref 9), some (.ref 26), none]) (st' := []) (h' := h2) (k_9 L2) (congrArg Value.ref (r_9_2 L2)) rfl ?_
  refine mX_to 1 (k' := 13) (ls' := [some (.ref 9), some (.ref 26), none]) (st' := [.ref 26, .ref 19]) (h' := h2) rfl ?_
  refine mX_ckv (v := .ref (gR h2 26 2)) (v' := .ref 36) (k' := 14) (ls' := [some (.ref 9), some (.ref 26), none]) (st' := [.ref 19]) (h' := h2) (k_26 L2) (congrArg Value.ref (r_26_2 L2)) rfl ?_
  refine mX_ckct (m := mcl (mE mtab d 330 [.ref 19, .ref 36] h2) 0 15 [some (.ref 9), some (.ref 26), none] []) (k_19 L2) rfl ?_
  refine mk_cVe (o := F_X2_copyFroma d h2) ?_
  intro wh3 h3 eh3
  have L3 : lay h3 := lay_call d 330 [.ref 19, .ref 36] h2 _ h3 rfl eh3 L2
  refine mX_to 2 (k' := 17) (ls' := [some (.ref 9), some (.ref 26), some (.int 0)]) (st' := []) (h' := h3) rfl ?_
  rfl
theorem S_X0_copyFromb_17 {h : MH} (L : lay h) (d : Nat) (l2 : Int32) : G_X0_copyFromb_17 d l2 h = (if l2 < 4 then ck (ib l2 4) (ck (ib l2 4 ∧ ((gR h 23 (ix l2)) = 0 ∨ kd h (gR h 23 (ix l2)) = 9)) (lt_ (sR h 40 (ix l2) (gR h 23 (ix l2))) fun h5 => G_X0_copyFromb_17 d (l2 + 1) h5)) else lt_ (sI h 26 4 (gI h 9 4)) fun h8 => lt_ (sI h8 26 5 (gI h8 9 5)) fun h10 => lt_ (rI h10 41 (va_cpy (gI h10 24) (gI h10 41) 0 0 8)) fun h12 => lt_ (rI h12 42 (va_cpy (gI h12 25) (gI h12 42) 0 0 8)) fun h14 => lt_ (sI h14 26 8 (gI h14 9 8)) fun h16 => some (.int 0, h16)) := by
  refine mX_to 2 (k' := 19) (ls' := [some (.ref 26), some (.ref 9), some (.int l2)]) (st' := [.int 4, .int l2]) (h' := h) rfl ?_
  refine mX_br (t := 20) (f := 30) (ls' := [some (.ref 26), some (.ref 9), some (.int l2)]) (st' := []) (h' := h) rfl ?_ ?_
  · refine mX_to 1 (k' := 21) (ls' := [some (.ref 26), some (.ref 9), some (.int l2)]) (st' := [.ref 26]) (h' := h) rfl ?_
    refine mX_ckv (v := .ref (gR h 26 3)) (v' := .ref 40) (k' := 22) (ls' := [some (.ref 26), some (.ref 9), some (.int l2)]) (st' := []) (h' := h) (k_26 L) (congrArg Value.ref (r_26_3 L)) rfl ?_
    refine mX_to 2 (k' := 24) (ls' := [some (.ref 26), some (.ref 9), some (.int l2)]) (st' := [.ref 9, .int l2, .ref 40]) (h' := h) rfl ?_
    refine mX_ckv (v := .ref (gR h 9 3)) (v' := .ref 23) (k' := 25) (ls' := [some (.ref 26), some (.ref 9), some (.int l2)]) (st' := [.int l2, .ref 40]) (h' := h) (k_9 L) (congrArg Value.ref (r_9_3 L)) rfl ?_
    refine mX_to 1 (k' := 26) (ls' := [some (.ref 26), some (.ref 9), some (.int l2)]) (st' := [.int l2, .ref 23, .int l2, .ref 40]) (h' := h) rfl ?_
    refine mX_ckw (v := .ref (gR h 23 (ix l2))) (v' := .ref (gR h 23 (ix l2))) (k' := 27) (ls' := [some (.ref 26), some (.ref 9), some (.int l2)]) (st' := [.int l2, .ref 40]) (h' := h) (ckA0 (k_23 L) (n_23 L)) rfl rfl fun c6 => ?_
    refine mX_cki (k' := 28) (ls' := [some (.ref 26), some (.ref 9), some (.int l2)]) (st' := []) (h' := (sR h 40 (ix l2) (gR h 23 (ix l2)))) (ckA3 (k_40 L) (n_40 L)) rfl fun c4 => ?_
    refine lt_geq2 (X := fun h5 : MH => mX (mE mtab d) KX0_copyFrom 28 [some (.ref 26), some (.ref 9), some (.int l2)] [] h5) (a := (sR h 40 (ix l2) (gR h 23 (ix l2)))) (a' := (sR h 40 (ix l2) (gR h 23 (ix l2)))) rfl fun h5 eh5 => ?_
    have L5 : lay h5 := eh5 ▸ layRA L (by decide)
    refine mX_to 2 (k' := 17) (ls' := [some (.ref 26), some (.ref 9), some (.int (l2 + 1))]) (st' := []) (h' := h5) rfl ?_
    rfl
  · refine mX_to 2 (k' := 32) (ls' := [some (.ref 26), some (.ref 9), some (.int l2)]) (st' := [.ref 9, .ref 26]) (h' := h) rfl ?_
    refine mX_ckv (v := .int (gI h 9 4)) (v' := .int (gI h 9 4)) (k' := 33) (ls' := [some (.ref 26), some (.ref 9), some (.int l2)]) (st' := [.ref 26]) (h' := h) (k_9 L) rfl rfl ?_
    refine mX_ckt (k' := 34) (ls' := [some (.ref 26), some (.ref 9), some (.int l2)]) (st' := []) (h' := (sI h 26 4 (gI h 9 4))) (k_26 L) rfl ?_
    refine lt_geq2 (X := fun h8 : MH => mX (mE mtab d) KX0_copyFrom 34 [some (.ref 26), some (.ref 9), some (.int l2)] [] h8) (a := (sI h 26 4 (gI h 9 4))) (a' := (sI h 26 4 (gI h 9 4))) rfl fun h8 eh8 => ?_
    have L8 : lay h8 := eh8 ▸ layI L (by decide)
    refine mX_to 2 (k' := 36) (ls' := [some (.ref 26), some (.ref 9), some (.int l2)]) (st' := [.ref 9, .ref 26]) (h' := h8) rfl ?_
    refine mX_ckv (v := .int (gI h8 9 5)) (v' := .int (gI h8 9 5)) (k' := 37) (ls' := [some (.ref 26), some (.ref 9), some (.int l2)]) (st' := [.ref 26]) (h' := h8) (k_9 L8) rfl rfl ?_
    refine mX_ckt (k' := 38) (ls' := [some (.ref 26), some (.ref 9), some (.int l2)]) (st' := []) (h' := (sI h8 26 5 (gI h8 9 5))) (k_26 L8) rfl ?_
    refine lt_geq2 (X := fun h10 : MH => mX (mE mtab d) KX0_copyFrom 38 [some (.ref 26), some (.ref 9), some (.int l2)] [] h10) (a := (sI h8 26 5 (gI h8 9 5))) (a' := (sI h8 26 5 (gI h8 9 5))) rfl fun h10 eh10 => ?_
    have L10 : lay h10 := eh10 ▸ layI L8 (by decide)
    refine mX_to 1 (k' := 39) (ls' := [some (.ref 26), some (.ref 9), some (.int l2)]) (st' := [.ref 9]) (h' := h10) rfl ?_
    refine mX_ckv (v := .ref (gR h10 9 6)) (v' := .ref 24) (k' := 40) (ls' := [some (.ref 26), some (.ref 9), some (.int l2)]) (st' := []) (h' := h10) (k_9 L10) (congrArg Value.ref (r_9_6 L10)) rfl ?_
    refine mX_to 2 (k' := 42) (ls' := [some (.ref 26), some (.ref 9), some (.int l2)]) (st' := [.ref 26, .int 0, .ref 24]) (h' := h10) rfl ?_
    refine mX_ckv (v := .ref (gR h10 26 6)) (v' := .ref 41) (k' := 43) (ls' := [some (.ref 26), some (.ref 9), some (.int l2)]) (st' := [.int 0, .ref 24]) (h' := h10) (k_26 L10) (congrArg Value.ref (r_26_6 L10)) rfl ?_
    refine mX_to 2 (k' := 45) (ls' := [some (.ref 26), some (.ref 9), some (.int l2)]) (st' := [.int 8, .int 0, .ref 41, .int 0, .ref 24]) (h' := h10) rfl ?_
    refine mX_ckt (k' := 46) (ls' := [some (.ref 26), some (.ref 9), some (.int l2)]) (st' := []) (h' := (rI h10 41 (va_cpy (gI h10 24) (gI h10 41) (ix (0 : Int32)) (ix (0 : Int32)) (ix (8 : Int32))))) (ckC (k_24 L10) (k_41 L10) (n_24 L10) (n_41 L10) (a := 0) (b := 0) (n := 8) rfl rfl rfl (by decide)) rfl ?_
    refine lt_geq2 (X := fun h12 : MH => mX (mE mtab d) KX0_copyFrom 46 [some (.ref 26), some (.ref 9), some (.int l2)] [] h12) (a := (rI h10 41 (va_cpy (gI h10 24) (gI h10 41) (ix (0 : Int32)) (ix (0 : Int32)) (ix (8 : Int32))))) (a' := (rI h10 41 (va_cpy (gI h10 24) (gI h10 41) 0 0 8))) (cpy_lit (a := 0) (b := 0) (n := 8) rfl rfl rfl (by decide)) fun h12 eh12 => ?_
    have L12 : lay h12 := eh12 ▸ lay_rI L10 (by decide)
    refine mX_to 1 (k' := 47) (ls' := [some (.ref 26), some (.ref 9), some (.int l2)]) (st' := [.ref 9]) (h' := h12) rfl ?_
    refine mX_ckv (v := .ref (gR h12 9 7)) (v' := .ref 25) (k' := 48) (ls' := [some (.ref 26), some (.ref 9), some (.int l2)]) (st' := []) (h' := h12) (k_9 L12) (congrArg Value.ref (r_9_7 L12)) rfl ?_
    refine mX_to 2 (k' := 50) (ls' := [some (.ref 26), some (.ref 9), some (.int l2)]) (st' := [.ref 26, .int 0, .ref 25]) (h' := h12) rfl ?_
    refine mX_ckv (v := .ref (gR h12 26 7)) (v' := .ref 42) (k' := 51) (ls' := [some (.ref 26), some (.ref 9), some (.int l2)]) (st' := [.int 0, .ref 25]) (h' := h12) (k_26 L12) (congrArg Value.ref (r_26_7 L12)) rfl ?_
    refine mX_to 2 (k' := 53) (ls' := [some (.ref 26), some (.ref 9), some (.int l2)]) (st' := [.int 8, .int 0, .ref 42, .int 0, .ref 25]) (h' := h12) rfl ?_
    refine mX_ckt (k' := 54) (ls' := [some (.ref 26), some (.ref 9), some (.int l2)]) (st' := []) (h' := (rI h12 42 (va_cpy (gI h12 25) (gI h12 42) (ix (0 : Int32)) (ix (0 : Int32)) (ix (8 : Int32))))) (ckC (k_25 L12) (k_42 L12) (n_25 L12) (n_42 L12) (a := 0) (b := 0) (n := 8) rfl rfl rfl (by decide)) rfl ?_
    refine lt_geq2 (X := fun h14 : MH => mX (mE mtab d) KX0_copyFrom 54 [some (.ref 26), some (.ref 9), some (.int l2)] [] h14) (a := (rI h12 42 (va_cpy (gI h12 25) (gI h12 42) (ix (0 : Int32)) (ix (0 : Int32)) (ix (8 : Int32))))) (a' := (rI h12 42 (va_cpy (gI h12 25) (gI h12 42) 0 0 8))) (cpy_lit (a := 0) (b := 0) (n := 8) rfl rfl rfl (by decide)) fun h14 eh14 => ?_
    have L14 : lay h14 := eh14 ▸ lay_rI L12 (by decide)
    refine mX_to 2 (k' := 56) (ls' := [some (.ref 26), some (.ref 9), some (.int l2)]) (st' := [.ref 9, .ref 26]) (h' := h14) rfl ?_
    refine mX_ckv (v := .int (gI h14 9 8)) (v' := .int (gI h14 9 8)) (k' := 57) (ls' := [some (.ref 26), some (.ref 9), some (.int l2)]) (st' := [.ref 26]) (h' := h14) (k_9 L14) rfl rfl ?_
    refine mX_ckt (k' := 58) (ls' := [some (.ref 26), some (.ref 9), some (.int l2)]) (st' := []) (h' := (sI h14 26 8 (gI h14 9 8))) (k_26 L14) rfl ?_
    refine lt_geq2 (X := fun h16 : MH => mX (mE mtab d) KX0_copyFrom 58 [some (.ref 26), some (.ref 9), some (.int l2)] [] h16) (a := (sI h14 26 8 (gI h14 9 8))) (a' := (sI h14 26 8 (gI h14 9 8))) rfl fun h16 eh16 => ?_
    have L16 : lay h16 := eh16 ▸ layI L14 (by decide)
    exact mX_ret rfl
theorem S_X0_copyFromb {h : MH} (L : lay h) (d : Nat) : F_X0_copyFromb (d + 1) h = cV (F_X9_copyFrom d 27 10 h) (fun h1 => cV (F_X6_copyFromb d h1) (fun h2 => cV (F_X2_copyFromb d h2) (fun h3 => G_X0_copyFromb_17 d 0 h3))) := by
  refine mE_eq (q := (yX0_copyFrom, cX0_copyFrom, 3, none, KX0_copyFrom)) (C := KX0_copyFrom) (ls := [some (.ref 26), some (.ref 9), none]) rfl rfl rfl rfl ?_
  refine mX_to 1 (k' := 1) (ls' := [some (.ref 26), some (.ref 9), none]) (st' := [.ref 26]) (h' := h) rfl ?_
  refine mX_ckv (v := .ref (gR h 26 0)) (v' := .ref 27) (k' := 2) (ls' := [some (.ref 26), some (.ref 9), none]) (st' := []) (h' := h) (k_26 L) (congrArg Value.ref (r_26_0 L)) rfl ?_
  refine mX_to 1 (k' := 3) (ls' := [some (.ref 26), some (.ref 9), none]) (st' := [.ref 9, .ref 27]) (h' := h) rfl ?_
  refine mX_ckv (v := .ref (gR h 9 0)) (v' := .ref 10) (k' := 4) (ls' := [some (.ref 26), some (.ref 9), none]) (st' := [.ref 27]) (h' := h) (k_9 L) (congrArg Value.ref (r_9_0 L)) rfl ?_
  refine mX_ckct (m := mcl (mE mtab d 225 [.ref 27, .ref 10] h) 0 5 [some (.ref 26), some (.ref 9), none] []) (k_27 L) rfl ?_
  refine mk_cVe (o := F_X9_copyFrom d 27 10 h) ?_
  intro wh1 h1 eh1
  have L1 : lay h1 := lay_call d 225 [.ref 27, .ref 10] h _ h1 rfl eh1 L
  refine mX_to 1 (k' := 6) (ls' := [some (.ref 26), some (.ref 9), none]) (st' := [.ref 26]) (h' := h1) rfl ?_
  refine mX_ckv (v := .ref (gR h1 26 1)) (v' := .ref 34) (k' := 7) (ls' := [some (.ref 26), some (.ref 9), none]) (st' := []) (h' := h1) (k_26 L1) (congrArg Value.ref (r_26_1 L1)) rfl ?_
  refine mX_to 1 (k' := 8) (ls' := [some (.ref 26), some (.ref 9), none]) (st' := [.ref 9, .ref 34]) (h' := h1) rfl ?_
  refine mX_ckv (v := .ref (gR h1 9 1)) (v' := .ref 17) (k' := 9) (ls' := [some (.ref 26), some (.ref 9), none]) (st' := [.ref 34]) (h' := h1) (k_9 L1) (congrArg Value.ref (r_9_1 L1)) rfl ?_
  refine mX_ckct (m := mcl (mE mtab d 329 [.ref 34, .ref 17] h1) 0 10 [some (.ref 26), some (.ref 9), none] []) (k_34 L1) rfl ?_
  refine mk_cVe (o := F_X6_copyFromb d h1) ?_
  intro wh2 h2 eh2
  have L2 : lay h2 := lay_call d 329 [.ref 34, .ref 17] h1 _ h2 rfl eh2 L1
  refine mX_to 1 (k' := 11) (ls' := [some (.ref 26), some (.ref 9), none]) (st' := [.ref 26]) (h' := h2) rfl ?_
  refine mX_ckv (v := .ref (gR h2 26 2)) (v' := .ref 36) (k' := 12) (ls' := [some (.ref 26), some (.ref 9), none]) (st' := []) (h' := h2) (k_26 L2) (congrArg Value.ref (r_26_2 L2)) rfl ?_
  refine mX_to 1 (k' := 13) (ls' := [some (.ref 26), some (.ref 9), none]) (st' := [.ref 9, .ref 36]) (h' := h2) rfl ?_
  refine mX_ckv (v := .ref (gR h2 9 2)) (v' := .ref 19) (k' := 14) (ls' := [some (.ref 26), some (.ref 9), none]) (st' := [.ref 36]) (h' := h2) (k_9 L2) (congrArg Value.ref (r_9_2 L2)) rfl ?_
  refine mX_ckct (m := mcl (mE mtab d 330 [.ref 36, .ref 19] h2) 0 15 [some (.ref 26), some (.ref 9), none] []) (k_36 L2) rfl ?_
  refine mk_cVe (o := F_X2_copyFromb d h2) ?_
  intro wh3 h3 eh3
  have L3 : lay h3 := lay_call d 330 [.ref 36, .ref 19] h2 _ h3 rfl eh3 L2
  refine mX_to 2 (k' := 17) (ls' := [some (.ref 26), some (.ref 9), some (.int 0)]) (st' := []) (h' := h3) rfl ?_
  rfl
