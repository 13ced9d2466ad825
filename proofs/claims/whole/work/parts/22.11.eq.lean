--deps:19.lay 21.facts 22.00.names
/-! EQUATIONS over the fixed cells (written by wip/gen/sgen.py) -/
theorem S_X0_walksPaired {h : MH} (L : lay h) (d : Nat) (a1 : Int32) (a2 : Int32) (a3 : Int32) (a4 : Int32) : F_X0_walksPaired (d + 1) a1 a2 a3 a4 h = cV (F_X6_mark d h) (fun h1 => cI (F_X9_goPaired d 10 a1 a2 a3 a4 h1) (fun x3 h2 => cI (F_X6_keptIf d x3 h2) (fun x5 h4 => ck (mrt 1 x5) (some (.int x5, h4))))) := by
  refine mE_eq (q := (yX0_walksPaired, cX0_walksPaired, 5, (some .boolean), KX0_walksPaired)) (C := KX0_walksPaired) (ls := [some (.ref 9), some (.int a1), some (.int a2), some (.int a3), some (.int a4)]) rfl rfl rfl rfl ?_
  refine mX_to 1 (k' := 1) (ls' := [some (.ref 9), some (.int a1), some (.int a2), some (.int a3), some (.int a4)]) (st' := [.ref 9]) (h' := h) rfl ?_
  refine mX_ckv (v := .ref (gR h 9 1)) (v' := .ref 17) (k' := 2) (ls' := [some (.ref 9), some (.int a1), some (.int a2), some (.int a3), some (.int a4)]) (st' := []) (h' := h) (k_9 L) (congrArg Value.ref (r_9_1 L)) rfl ?_
  refine mX_to 1 (k' := 3) (ls' := [some (.ref 9), some (.int a1), some (.int a2), some (.int a3), some (.int a4)]) (st' := [.ref 9, .ref 17]) (h' := h) rfl ?_
  refine mX_ckv (v := .ref (gR h 9 0)) (v' := .ref 10) (k' := 4) (ls' := [some (.ref 9), some (.int a1), some (.int a2), some (.int a3), some (.int a4)]) (st' := [.ref 17]) (h' := h) (k_9 L) (congrArg Value.ref (r_9_0 L)) rfl ?_
  refine mX_ckct (m := mcl (mE mtab d 137 [.ref 17, .ref 10] h) 0 5 [some (.ref 9), some (.int a1), some (.int a2), some (.int a3), some (.int a4)] []) (k_17 L) rfl ?_
  refine mk_cVe (o := F_X6_mark d h) ?_
  intro wh1 h1 eh1
  have L1 : lay h1 := lay_call d 137 [.ref 17, .ref 10] h _ h1 rfl eh1 L
  refine mX_to 1 (k' := 6) (ls' := [some (.ref 9), some (.int a1), some (.int a2), some (.int a3), some (.int a4)]) (st' := [.ref 9]) (h' := h1) rfl ?_
  refine mX_ckv (v := .ref (gR h1 9 1)) (v' := .ref 17) (k' := 7) (ls' := [some (.ref 9), some (.int a1), some (.int a2), some (.int a3), some (.int a4)]) (st' := []) (h' := h1) (k_9 L1) (congrArg Value.ref (r_9_1 L1)) rfl ?_
  refine mX_to 1 (k' := 8) (ls' := [some (.ref 9), some (.int a1), some (.int a2), some (.int a3), some (.int a4)]) (st' := [.ref 9, .ref 17]) (h' := h1) rfl ?_
  refine mX_ckv (v := .ref (gR h1 9 0)) (v' := .ref 10) (k' := 9) (ls' := [some (.ref 9), some (.int a1), some (.int a2), some (.int a3), some (.int a4)]) (st' := [.ref 17]) (h' := h1) (k_9 L1) (congrArg Value.ref (r_9_0 L1)) rfl ?_
  refine mX_to 4 (k' := 13) (ls' := [some (.ref 9), some (.int a1), some (.int a2), some (.int a3), some (.int a4)]) (st' := [.int a4, .int a3, .int a2, .int a1, .ref 10, .ref 17]) (h' := h1) rfl ?_
  refine mX_ckct (m := mcl (mE mtab d 177 [.ref 10, .int a1, .int a2, .int a3, .int a4] h1) 1 14 [some (.ref 9), some (.int a1), some (.int a2), some (.int a3), some (.int a4)] [.ref 17]) (k_10 L1) rfl ?_
  refine mk_cIe (o := F_X9_goPaired d 10 a1 a2 a3 a4 h1) ?_
  intro x3 h2 eh2
  have L2 : lay h2 := lay_call d 177 [.ref 10, .int a1, .int a2, .int a3, .int a4] h1 _ h2 rfl eh2 L1
  refine mX_ckct (m := mcl (mE mtab d 148 [.ref 17, .int x3] h2) 1 15 [some (.ref 9), some (.int a1), some (.int a2), some (.int a3), some (.int a4)] []) (k_17 L2) rfl ?_
  refine mk_cIe (o := F_X6_keptIf d x3 h2) ?_
  intro x5 h4 eh4
  have L4 : lay h4 := lay_call d 148 [.ref 17, .int x3] h2 _ h4 rfl eh4 L2
  exact mX_retc rfl
theorem S_X10_pair {h : MH} (L : lay h) (d : Nat) (a1 : Int32) (a2 : Int32) (a3 : Int32) (a4 : Int32) : F_X10_pair (d + 1) a1 a2 a3 a4 h = cI (F_X0_walksPaired d a1 a2 a3 a4 h) (fun x2 h1 => ck (mrt 1 x2) (some (.int x2, h1))) := by
  refine mE_eq (q := (yX10_pair, cX10_pair, 5, (some .boolean), KX10_pair)) (C := KX10_pair) (ls := [some (.ref 8), some (.int a1), some (.int a2), some (.int a3), some (.int a4)]) rfl rfl rfl rfl ?_
  refine mX_to 1 (k' := 1) (ls' := [some (.ref 8), some (.int a1), some (.int a2), some (.int a3), some (.int a4)]) (st' := [.ref 8]) (h' := h) rfl ?_
  refine mX_ckv (v := .ref (gR h 8 0)) (v' := .ref 9) (k' := 2) (ls' := [some (.ref 8), some (.int a1), some (.int a2), some (.int a3), some (.int a4)]) (st' := []) (h' := h) (k_8 L) (congrArg Value.ref (r_8_0 L)) rfl ?_
  refine mX_to 4 (k' := 6) (ls' := [some (.ref 8), some (.int a1), some (.int a2), some (.int a3), some (.int a4)]) (st' := [.int a4, .int a3, .int a2, .int a1, .ref 9]) (h' := h) rfl ?_
  refine mX_ckct (m := mcl (mE mtab d 178 [.ref 9, .int a1, .int a2, .int a3, .int a4] h) 1 7 [some (.ref 8), some (.int a1), some (.int a2), some (.int a3), some (.int a4)] []) (k_9 L) rfl ?_
  refine mk_cIe (o := F_X0_walksPaired d a1 a2 a3 a4 h) ?_
  intro x2 h1 eh1
  have L1 : lay h1 := lay_call d 178 [.ref 9, .int a1, .int a2, .int a3, .int a4] h _ h1 rfl eh1 L
  exact mX_retc rfl
theorem S_X11_canPair_29 {h : MH} (L : lay h) (d : Nat) (l1 : Int32) (l2 : Int32) (l3 : Int32) (l4 : Int32) (s0 : Int32) : G_X11_canPair_29 d l1 l2 l3 l4 s0 h = (if l2 = 0 then G_X11_canPair_37 d l1 l2 l3 l4 s0 1 l1 h else G_X11_canPair_37 d l1 l2 l3 l4 s0 0 l1 h) := by
  refine mX_to 4 (k' := 33) (ls' := [some (.ref 67), some (.int l1), some (.int l2), some (.int l3), some (.int l4), some (.int s0)]) (st' := [.int l2, .int l1, .ref 67]) (h' := h) rfl ?_
  refine mX_br (t := 34) (f := 36) (ls' := [some (.ref 67), some (.int l1), some (.int l2), some (.int l3), some (.int l4), some (.int s0)]) (st' := [.int l1, .ref 67]) (h' := h) rfl ?_ ?_
  · refine mX_to 2 (k' := 37) (ls' := [some (.ref 67), some (.int l1), some (.int l2), some (.int l3), some (.int l4), some (.int s0)]) (st' := [.int 1, .int l1, .ref 67]) (h' := h) rfl ?_
    rfl
  · refine mX_to 1 (k' := 37) (ls' := [some (.ref 67), some (.int l1), some (.int l2), some (.int l3), some (.int l4), some (.int s0)]) (st' := [.int 0, .int l1, .ref 67]) (h' := h) rfl ?_
    rfl
theorem S_X11_canPair_37 {h : MH} (L : lay h) (d : Nat) (l1 : Int32) (l2 : Int32) (l3 : Int32) (l4 : Int32) (l5 : Int32) (s0 : Int32) (s1 : Int32) : G_X11_canPair_37 d l1 l2 l3 l4 l5 s0 s1 h = cV (F_X11_move d s1 s0 h) (fun h9 => (if l4 = 0 then G_X11_canPair_45 d l1 l2 l3 l4 l5 1 l3 h9 else G_X11_canPair_45 d l1 l2 l3 l4 l5 0 l3 h9)) := by
  refine mX_ckct (m := mcl (mE mtab d 153 [.ref 67, .int s1, .int s0] h) 0 38 [some (.ref 67), some (.int l1), some (.int l2), some (.int l3), some (.int l4), some (.int l5)] []) (k_67 L) rfl ?_
  refine mk_cVe (o := F_X11_move d s1 s0 h) ?_
  intro wh9 h9 eh9
  have L9 : lay h9 := lay_call d 153 [.ref 67, .int s1, .int s0] h _ h9 rfl eh9 L
  refine mX_to 3 (k' := 41) (ls' := [some (.ref 67), some (.int l1), some (.int l2), some (.int l3), some (.int l4), some (.int l5)]) (st' := [.int l4, .int l3, .ref 67]) (h' := h9) rfl ?_
  refine mX_br (t := 42) (f := 44) (ls' := [some (.ref 67), some (.int l1), some (.int l2), some (.int l3), some (.int l4), some (.int l5)]) (st' := [.int l3, .ref 67]) (h' := h9) rfl ?_ ?_
  · refine mX_to 2 (k' := 45) (ls' := [some (.ref 67), some (.int l1), some (.int l2), some (.int l3), some (.int l4), some (.int l5)]) (st' := [.int 1, .int l3, .ref 67]) (h' := h9) rfl ?_
    rfl
  · refine mX_to 1 (k' := 45) (ls' := [some (.ref 67), some (.int l1), some (.int l2), some (.int l3), some (.int l4), some (.int l5)]) (st' := [.int 0, .int l3, .ref 67]) (h' := h9) rfl ?_
    rfl
theorem S_X11_canPair_45 {h : MH} (L : lay h) (d : Nat) (l1 : Int32) (l2 : Int32) (l3 : Int32) (l4 : Int32) (l5 : Int32) (s0 : Int32) (s1 : Int32) : G_X11_canPair_45 d l1 l2 l3 l4 l5 s0 s1 h = cV (F_X11_move d s1 s0 h) (fun h10 => ck (mrt 1 l5) (some (.int l5, h10))) := by
  refine mX_ckct (m := mcl (mE mtab d 153 [.ref 67, .int s1, .int s0] h) 0 46 [some (.ref 67), some (.int l1), some (.int l2), some (.int l3), some (.int l4), some (.int l5)] []) (k_67 L) rfl ?_
  refine mk_cVe (o := F_X11_move d s1 s0 h) ?_
  intro wh10 h10 eh10
  have L10 : lay h10 := lay_call d 153 [.ref 67, .int s1, .int s0] h _ h10 rfl eh10 L
  refine mX_to 1 (k' := 47) (ls' := [some (.ref 67), some (.int l1), some (.int l2), some (.int l3), some (.int l4), some (.int l5)]) (st' := [.int l5]) (h' := h10) rfl ?_
  exact mX_retc rfl
theorem S_X11_canPair {h : MH} (L : lay h) (d : Nat) (a1 : Int32) (a2 : Int32) (a3 : Int32) (a4 : Int32) : F_X11_canPair (d + 1) a1 a2 a3 a4 h = (if a1 = a3 then some (.int 0, h) else cI (F_X11_canStep d a1 a2 h) (fun x2 h1 => (if x2 = 0 then some (.int 0, h1) else cI (F_X11_canStep d a3 a4 h1) (fun x4 h3 => (if x4 = 0 then some (.int 0, h3) else cV (F_X11_move d a1 a2 h3) (fun h5 => cV (F_X11_move d a3 a4 h5) (fun h6 => cI (F_X11_isFar d h6) (fun x8 h7 => (if x8 = 0 then G_X11_canPair_29 d a1 a2 a3 a4 1 h7 else G_X11_canPair_29 d a1 a2 a3 a4 0 h7))))))))) := by
  refine mE_eq (q := (yX11_canPair, cX11_canPair, 6, (some .boolean), KX11_canPair)) (C := KX11_canPair) (ls := [some (.ref 67), some (.int a1), some (.int a2), some (.int a3), some (.int a4), none]) rfl rfl rfl rfl ?_
  refine mX_to 2 (k' := 2) (ls' := [some (.ref 67), some (.int a1), some (.int a2), some (.int a3), some (.int a4), none]) (st' := [.int a3, .int a1]) (h' := h) rfl ?_
  refine mX_br (t := 13) (f := 3) (ls' := [some (.ref 67), some (.int a1), some (.int a2), some (.int a3), some (.int a4), none]) (st' := []) (h' := h) rfl ?_ ?_
  · refine mX_to 1 (k' := 14) (ls' := [some (.ref 67), some (.int a1), some (.int a2), some (.int a3), some (.int a4), none]) (st' := [.int 0]) (h' := h) rfl ?_
    exact mX_retb (by decide) rfl
  · refine mX_to 3 (k' := 6) (ls' := [some (.ref 67), some (.int a1), some (.int a2), some (.int a3), some (.int a4), none]) (st' := [.int a2, .int a1, .ref 67]) (h' := h) rfl ?_
    refine mX_ckct (m := mcl (mE mtab d 152 [.ref 67, .int a1, .int a2] h) 1 7 [some (.ref 67), some (.int a1), some (.int a2), some (.int a3), some (.int a4), none] []) (k_67 L) rfl ?_
    refine mk_cIe (o := F_X11_canStep d a1 a2 h) ?_
    intro x2 h1 eh1
    have L1 : lay h1 := lay_call d 152 [.ref 67, .int a1, .int a2] h _ h1 rfl eh1 L
    refine mX_br (t := 13) (f := 8) (ls' := [some (.ref 67), some (.int a1), some (.int a2), some (.int a3), some (.int a4), none]) (st' := []) (h' := h1) rfl ?_ ?_
    · refine mX_to 1 (k' := 14) (ls' := [some (.ref 67), some (.int a1), some (.int a2), some (.int a3), some (.int a4), none]) (st' := [.int 0]) (h' := h1) rfl ?_
      exact mX_retb (by decide) rfl
    · refine mX_to 3 (k' := 11) (ls' := [some (.ref 67), some (.int a1), some (.int a2), some (.int a3), some (.int a4), none]) (st' := [.int a4, .int a3, .ref 67]) (h' := h1) rfl ?_
      refine mX_ckct (m := mcl (mE mtab d 152 [.ref 67, .int a3, .int a4] h1) 1 12 [some (.ref 67), some (.int a1), some (.int a2), some (.int a3), some (.int a4), none] []) (k_67 L1) rfl ?_
      refine mk_cIe (o := F_X11_canStep d a3 a4 h1) ?_
      intro x4 h3 eh3
      have L3 : lay h3 := lay_call d 152 [.ref 67, .int a3, .int a4] h1 _ h3 rfl eh3 L1
      refine mX_br (t := 13) (f := 15) (ls' := [some (.ref 67), some (.int a1), some (.int a2), some (.int a3), some (.int a4), none]) (st' := []) (h' := h3) rfl ?_ ?_
      · refine mX_to 1 (k' := 14) (ls' := [some (.ref 67), some (.int a1), some (.int a2), some (.int a3), some (.int a4), none]) (st' := [.int 0]) (h' := h3) rfl ?_
        exact mX_retb (by decide) rfl
      · refine mX_to 3 (k' := 18) (ls' := [some (.ref 67), some (.int a1), some (.int a2), some (.int a3), some (.int a4), none]) (st' := [.int a2, .int a1, .ref 67]) (h' := h3) rfl ?_
        refine mX_ckct (m := mcl (mE mtab d 153 [.ref 67, .int a1, .int a2] h3) 0 19 [some (.ref 67), some (.int a1), some (.int a2), some (.int a3), some (.int a4), none] []) (k_67 L3) rfl ?_
        refine mk_cVe (o := F_X11_move d a1 a2 h3) ?_
        intro wh5 h5 eh5
        have L5 : lay h5 := lay_call d 153 [.ref 67, .int a1, .int a2] h3 _ h5 rfl eh5 L3
        refine mX_to 3 (k' := 22) (ls' := [some (.ref 67), some (.int a1), some (.int a2), some (.int a3), some (.int a4), none]) (st' := [.int a4, .int a3, .ref 67]) (h' := h5) rfl ?_
        refine mX_ckct (m := mcl (mE mtab d 153 [.ref 67, .int a3, .int a4] h5) 0 23 [some (.ref 67), some (.int a1), some (.int a2), some (.int a3), some (.int a4), none] []) (k_67 L5) rfl ?_
        refine mk_cVe (o := F_X11_move d a3 a4 h5) ?_
        intro wh6 h6 eh6
        have L6 : lay h6 := lay_call d 153 [.ref 67, .int a3, .int a4] h5 _ h6 rfl eh6 L5
        refine mX_to 1 (k' := 24) (ls' := [some (.ref 67), some (.int a1), some (.int a2), some (.int a3), some (.int a4), none]) (st' := [.ref 67]) (h' := h6) rfl ?_
        refine mX_ckct (m := mcl (mE mtab d 173 [.ref 67] h6) 1 25 [some (.ref 67), some (.int a1), some (.int a2), some (.int a3), some (.int a4), none] []) (k_67 L6) rfl ?_
        refine mk_cIe (o := F_X11_isFar d h6) ?_
        intro x8 h7 eh7
        have L7 : lay h7 := lay_call d 173 [.ref 67] h6 _ h7 rfl eh7 L6
        refine mX_br (t := 26) (f := 28) (ls' := [some (.ref 67), some (.int a1), some (.int a2), some (.int a3), some (.int a4), none]) (st' := []) (h' := h7) rfl ?_ ?_
        · refine mX_to 2 (k' := 29) (ls' := [some (.ref 67), some (.int a1), some (.int a2), some (.int a3), some (.int a4), none]) (st' := [.int 1]) (h' := h7) rfl ?_
          rfl
        · refine mX_to 1 (k' := 29) (ls' := [some (.ref 67), some (.int a1), some (.int a2), some (.int a3), some (.int a4), none]) (st' := [.int 0]) (h' := h7) rfl ?_
          rfl
theorem S_X11_pair {h : MH} (L : lay h) (d : Nat) (a1 : Int32) (a2 : Int32) (a3 : Int32) (a4 : Int32) : F_X11_pair (d + 1) a1 a2 a3 a4 h = cI (F_X11_canPair d a1 a2 a3 a4 h) (fun x2 h1 => (if x2 = 0 then some (.int 0, h1) else cV (F_X11_keep d h1) (fun h3 => cV (F_X11_move d a1 a2 h3) (fun h4 => cV (F_X11_move d a3 a4 h4) (fun h5 => some (.int 1, h5)))))) := by
  refine mE_eq (q := (yX11_pair, cX11_pair, 5, (some .boolean), KX11_pair)) (C := KX11_pair) (ls := [some (.ref 67), some (.int a1), some (.int a2), some (.int a3), some (.int a4)]) rfl rfl rfl rfl ?_
  refine mX_to 5 (k' := 5) (ls' := [some (.ref 67), some (.int a1), some (.int a2), some (.int a3), some (.int a4)]) (st' := [.int a4, .int a3, .int a2, .int a1, .ref 67]) (h' := h) rfl ?_
  refine mX_ckct (m := mcl (mE mtab d 180 [.ref 67, .int a1, .int a2, .int a3, .int a4] h) 1 6 [some (.ref 67), some (.int a1), some (.int a2), some (.int a3), some (.int a4)] []) (k_67 L) rfl ?_
  refine mk_cIe (o := F_X11_canPair d a1 a2 a3 a4 h) ?_
  intro x2 h1 eh1
  have L1 : lay h1 := lay_call d 180 [.ref 67, .int a1, .int a2, .int a3, .int a4] h _ h1 rfl eh1 L
  refine mX_br (t := 7) (f := 9) (ls' := [some (.ref 67), some (.int a1), some (.int a2), some (.int a3), some (.int a4)]) (st' := []) (h' := h1) rfl ?_ ?_
  · refine mX_to 1 (k' := 8) (ls' := [some (.ref 67), some (.int a1), some (.int a2), some (.int a3), some (.int a4)]) (st' := [.int 0]) (h' := h1) rfl ?_
    exact mX_retb (by decide) rfl
  · refine mX_to 1 (k' := 10) (ls' := [some (.ref 67), some (.int a1), some (.int a2), some (.int a3), some (.int a4)]) (st' := [.ref 67]) (h' := h1) rfl ?_
    refine mX_ckct (m := mcl (mE mtab d 175 [.ref 67] h1) 0 11 [some (.ref 67), some (.int a1), some (.int a2), some (.int a3), some (.int a4)] []) (k_67 L1) rfl ?_
    refine mk_cVe (o := F_X11_keep d h1) ?_
    intro wh3 h3 eh3
    have L3 : lay h3 := lay_call d 175 [.ref 67] h1 _ h3 rfl eh3 L1
    refine mX_to 3 (k' := 14) (ls' := [some (.ref 67), some (.int a1), some (.int a2), some (.int a3), some (.int a4)]) (st' := [.int a2, .int a1, .ref 67]) (h' := h3) rfl ?_
    refine mX_ckct (m := mcl (mE mtab d 153 [.ref 67, .int a1, .int a2] h3) 0 15 [some (.ref 67), some (.int a1), some (.int a2), some (.int a3), some (.int a4)] []) (k_67 L3) rfl ?_
    refine mk_cVe (o := F_X11_move d a1 a2 h3) ?_
    intro wh4 h4 eh4
    have L4 : lay h4 := lay_call d 153 [.ref 67, .int a1, .int a2] h3 _ h4 rfl eh4 L3
    refine mX_to 3 (k' := 18) (ls' := [some (.ref 67), some (.int a1), some (.int a2), some (.int a3), some (.int a4)]) (st' := [.int a4, .int a3, .ref 67]) (h' := h4) rfl ?_
    refine mX_ckct (m := mcl (mE mtab d 153 [.ref 67, .int a3, .int a4] h4) 0 19 [some (.ref 67), some (.int a1), some (.int a2), some (.int a3), some (.int a4)] []) (k_67 L4) rfl ?_
    refine mk_cVe (o := F_X11_move d a3 a4 h4) ?_
    intro wh5 h5 eh5
    have L5 : lay h5 := lay_call d 153 [.ref 67, .int a3, .int a4] h4 _ h5 rfl eh5 L4
    refine mX_to 1 (k' := 20) (ls' := [some (.ref 67), some (.int a1), some (.int a2), some (.int a3), some (.int a4)]) (st' := [.int 1]) (h' := h5) rfl ?_
    exact mX_retb (by decide) rfl
theorem S_X9_clear {h : MH} (L : lay h) (d : Nat) (q : Nat) (a1 : Int32) (a2 : Int32) (T : tAt q) : F_X9_clear (d + 1) q a1 a2 h = ck (ib a1 9) ((if (gI h (q + 4) (ix a1)) < a2 then some (.int 0, h) else ck (ib a1 9) (ck (ib a1 9) (lt_ (sI h (q + 4) (ix a1) ((gI h (q + 4) (ix a1)) - a2)) fun h2 => cI (F_X9_holdsStill d q h2) (fun x4 h3 => (if x4 = 0 then ck (ib a1 9) (ck (ib a1 9) (lt_ (sI h3 (q + 4) (ix a1) ((gI h3 (q + 4) (ix a1)) + a2)) fun h6 => some (.int 0, h6))) else some (.int 1, h3))))))) := by
  refine mE_eq (q := (yX9_clear, cX9_clear, 3, (some .boolean), KX9_clear)) (C := KX9_clear) (ls := [some (.ref q), some (.int a1), some (.int a2)]) rfl rfl rfl rfl ?_
  refine mX_to 1 (k' := 1) (ls' := [some (.ref q), some (.int a1), some (.int a2)]) (st' := [.ref q]) (h' := h) rfl ?_
  refine mX_ckv (v := .ref (gR h q 4)) (v' := .ref (q + 4)) (k' := 2) (ls' := [some (.ref q), some (.int a1), some (.int a2)]) (st' := []) (h' := h) (kT0 L T) (congrArg Value.ref (rT4 L T)) rfl ?_
  refine mX_to 1 (k' := 3) (ls' := [some (.ref q), some (.int a1), some (.int a2)]) (st' := [.int a1, .ref (q + 4)]) (h' := h) rfl ?_
  refine mX_ckw (v := .int (gI h (q + 4) (ix a1))) (v' := .int (gI h (q + 4) (ix a1))) (k' := 4) (ls' := [some (.ref q), some (.int a1), some (.int a2)]) (st' := []) (h' := h) (ckA1 (kT4 L T) (nT4 L T)) rfl rfl fun c9 => ?_
  refine mX_to 1 (k' := 5) (ls' := [some (.ref q), some (.int a1), some (.int a2)]) (st' := [.int a2, .int (gI h (q + 4) (ix a1))]) (h' := h) rfl ?_
  refine mX_br (t := 6) (f := 8) (ls' := [some (.ref q), some (.int a1), some (.int a2)]) (st' := []) (h' := h) rfl ?_ ?_
  · refine mX_to 1 (k' := 7) (ls' := [some (.ref q), some (.int a1), some (.int a2)]) (st' := [.int 0]) (h' := h) rfl ?_
    exact mX_retb (by decide) rfl
  · refine mX_to 1 (k' := 9) (ls' := [some (.ref q), some (.int a1), some (.int a2)]) (st' := [.ref q]) (h' := h) rfl ?_
    refine mX_ckv (v := .ref (gR h q 4)) (v' := .ref (q + 4)) (k' := 10) (ls' := [some (.ref q), some (.int a1), some (.int a2)]) (st' := []) (h' := h) (kT0 L T) (congrArg Value.ref (rT4 L T)) rfl ?_
    refine mX_to 2 (k' := 12) (ls' := [some (.ref q), some (.int a1), some (.int a2)]) (st' := [.int a1, .ref (q + 4), .int a1, .ref (q + 4)]) (h' := h) rfl ?_
    refine mX_ckw (v := .int (gI h (q + 4) (ix a1))) (v' := .int (gI h (q + 4) (ix a1))) (k' := 13) (ls' := [some (.ref q), some (.int a1), some (.int a2)]) (st' := [.int a1, .ref (q + 4)]) (h' := h) (ckA1 (kT4 L T) (nT4 L T)) rfl rfl fun c8 => ?_
    refine mX_to 2 (k' := 15) (ls' := [some (.ref q), some (.int a1), some (.int a2)]) (st' := [.int ((gI h (q + 4) (ix a1)) - a2), .int a1, .ref (q + 4)]) (h' := h) rfl ?_
    refine mX_cki (k' := 16) (ls' := [some (.ref q), some (.int a1), some (.int a2)]) (st' := []) (h' := (sI h (q + 4) (ix a1) ((gI h (q + 4) (ix a1)) - a2))) (ckA0 (kT4 L T) (nT4 L T)) rfl fun c1 => ?_
    refine lt_geq2 (X := fun h2 : MH => mX (mE mtab d) KX9_clear 16 [some (.ref q), some (.int a1), some (.int a2)] [] h2) (a := (sI h (q + 4) (ix a1) ((gI h (q + 4) (ix a1)) - a2))) (a' := (sI h (q + 4) (ix a1) ((gI h (q + 4) (ix a1)) - a2))) rfl fun h2 eh2 => ?_
    have L2 : lay h2 := eh2 ▸ layI L (neT4 T)
    refine mX_to 1 (k' := 17) (ls' := [some (.ref q), some (.int a1), some (.int a2)]) (st' := [.ref q]) (h' := h2) rfl ?_
    refine mX_ckct (m := mcl (mE mtab d 146 [.ref q] h2) 1 18 [some (.ref q), some (.int a1), some (.int a2)] []) (kT0 L2 T) rfl ?_
    refine mk_cIe (o := F_X9_holdsStill d q h2) ?_
    intro x4 h3 eh3
    have L3 : lay h3 := lay_call d 146 [.ref q] h2 _ h3 rfl eh3 L2
    refine mX_br (t := 21) (f := 19) (ls' := [some (.ref q), some (.int a1), some (.int a2)]) (st' := []) (h' := h3) rfl ?_ ?_
    · refine mX_to 1 (k' := 22) (ls' := [some (.ref q), some (.int a1), some (.int a2)]) (st' := [.ref q]) (h' := h3) rfl ?_
      refine mX_ckv (v := .ref (gR h3 q 4)) (v' := .ref (q + 4)) (k' := 23) (ls' := [some (.ref q), some (.int a1), some (.int a2)]) (st' := []) (h' := h3) (kT0 L3 T) (congrArg Value.ref (rT4 L3 T)) rfl ?_
      refine mX_to 2 (k' := 25) (ls' := [some (.ref q), some (.int a1), some (.int a2)]) (st' := [.int a1, .ref (q + 4), .int a1, .ref (q + 4)]) (h' := h3) rfl ?_
      refine mX_ckw (v := .int (gI h3 (q + 4) (ix a1))) (v' := .int (gI h3 (q + 4) (ix a1))) (k' := 26) (ls' := [some (.ref q), some (.int a1), some (.int a2)]) (st' := [.int a1, .ref (q + 4)]) (h' := h3) (ckA1 (kT4 L3 T) (nT4 L3 T)) rfl rfl fun c7 => ?_
      refine mX_to 2 (k' := 28) (ls' := [some (.ref q), some (.int a1), some (.int a2)]) (st' := [.int ((gI h3 (q + 4) (ix a1)) + a2), .int a1, .ref (q + 4)]) (h' := h3) rfl ?_
      refine mX_cki (k' := 29) (ls' := [some (.ref q), some (.int a1), some (.int a2)]) (st' := []) (h' := (sI h3 (q + 4) (ix a1) ((gI h3 (q + 4) (ix a1)) + a2))) (ckA0 (kT4 L3 T) (nT4 L3 T)) rfl fun c5 => ?_
      refine lt_geq2 (X := fun h6 : MH => mX (mE mtab d) KX9_clear 29 [some (.ref q), some (.int a1), some (.int a2)] [] h6) (a := (sI h3 (q + 4) (ix a1) ((gI h3 (q + 4) (ix a1)) + a2))) (a' := (sI h3 (q + 4) (ix a1) ((gI h3 (q + 4) (ix a1)) + a2))) rfl fun h6 eh6 => ?_
      have L6 : lay h6 := eh6 ▸ layI L3 (neT4 T)
      refine mX_to 1 (k' := 30) (ls' := [some (.ref q), some (.int a1), some (.int a2)]) (st' := [.int 0]) (h' := h6) rfl ?_
      exact mX_retb (by decide) rfl
    · refine mX_to 1 (k' := 20) (ls' := [some (.ref q), some (.int a1), some (.int a2)]) (st' := [.int 1]) (h' := h3) rfl ?_
      exact mX_retb (by decide) rfl
theorem S_X0_shovels {h : MH} (L : lay h) (d : Nat) (a1 : Int32) (a2 : Int32) : F_X0_shovels (d + 1) a1 a2 h = cV (F_X6_mark d h) (fun h1 => cI (F_X9_clear d 10 a1 a2 h1) (fun x3 h2 => cI (F_X6_keptIf d x3 h2) (fun x5 h4 => ck (mrt 1 x5) (some (.int x5, h4))))) := by
  refine mE_eq (q := (yX0_shovels, cX0_shovels, 3, (some .boolean), KX0_shovels)) (C := KX0_shovels) (ls := [some (.ref 9), some (.int a1), some (.int a2)]) rfl rfl rfl rfl ?_
  refine mX_to 1 (k' := 1) (ls' := [some (.ref 9), some (.int a1), some (.int a2)]) (st' := [.ref 9]) (h' := h) rfl ?_
  refine mX_ckv (v := .ref (gR h 9 1)) (v' := .ref 17) (k' := 2) (ls' := [some (.ref 9), some (.int a1), some (.int a2)]) (st' := []) (h' := h) (k_9 L) (congrArg Value.ref (r_9_1 L)) rfl ?_
  refine mX_to 1 (k' := 3) (ls' := [some (.ref 9), some (.int a1), some (.int a2)]) (st' := [.ref 9, .ref 17]) (h' := h) rfl ?_
  refine mX_ckv (v := .ref (gR h 9 0)) (v' := .ref 10) (k' := 4) (ls' := [some (.ref 9), some (.int a1), some (.int a2)]) (st' := [.ref 17]) (h' := h) (k_9 L) (congrArg Value.ref (r_9_0 L)) rfl ?_
  refine mX_ckct (m := mcl (mE mtab d 137 [.ref 17, .ref 10] h) 0 5 [some (.ref 9), some (.int a1), some (.int a2)] []) (k_17 L) rfl ?_
  refine mk_cVe (o := F_X6_mark d h) ?_
  intro wh1 h1 eh1
  have L1 : lay h1 := lay_call d 137 [.ref 17, .ref 10] h _ h1 rfl eh1 L
  refine mX_to 1 (k' := 6) (ls' := [some (.ref 9), some (.int a1), some (.int a2)]) (st' := [.ref 9]) (h' := h1) rfl ?_
  refine mX_ckv (v := .ref (gR h1 9 1)) (v' := .ref 17) (k' := 7) (ls' := [some (.ref 9), some (.int a1), some (.int a2)]) (st' := []) (h' := h1) (k_9 L1) (congrArg Value.ref (r_9_1 L1)) rfl ?_
  refine mX_to 1 (k' := 8) (ls' := [some (.ref 9), some (.int a1), some (.int a2)]) (st' := [.ref 9, .ref 17]) (h' := h1) rfl ?_
  refine mX_ckv (v := .ref (gR h1 9 0)) (v' := .ref 10) (k' := 9) (ls' := [some (.ref 9), some (.int a1), some (.int a2)]) (st' := [.ref 17]) (h' := h1) (k_9 L1) (congrArg Value.ref (r_9_0 L1)) rfl ?_
  refine mX_to 2 (k' := 11) (ls' := [some (.ref 9), some (.int a1), some (.int a2)]) (st' := [.int a2, .int a1, .ref 10, .ref 17]) (h' := h1) rfl ?_
  refine mX_ckct (m := mcl (mE mtab d 182 [.ref 10, .int a1, .int a2] h1) 1 12 [some (.ref 9), some (.int a1), some (.int a2)] [.ref 17]) (k_10 L1) rfl ?_
  refine mk_cIe (o := F_X9_clear d 10 a1 a2 h1) ?_
  intro x3 h2 eh2
  have L2 : lay h2 := lay_call d 182 [.ref 10, .int a1, .int a2] h1 _ h2 rfl eh2 L1
  refine mX_ckct (m := mcl (mE mtab d 148 [.ref 17, .int x3] h2) 1 13 [some (.ref 9), some (.int a1), some (.int a2)] []) (k_17 L2) rfl ?_
  refine mk_cIe (o := F_X6_keptIf d x3 h2) ?_
  intro x5 h4 eh4
  have L4 : lay h4 := lay_call d 148 [.ref 17, .int x3] h2 _ h4 rfl eh4 L2
  exact mX_retc rfl
theorem S_X10_shovel {h : MH} (L : lay h) (d : Nat) (a1 : Int32) (a2 : Int32) : F_X10_shovel (d + 1) a1 a2 h = cI (F_X10_within d a1 0 8 h) (fun x2 h1 => (if x2 = 0 then some (.int 0, h1) else cI (F_X10_within d a2 1 9 h1) (fun x4 h3 => (if x4 = 0 then some (.int 0, h3) else cI (F_X0_shovels d a1 a2 h3) (fun x6 h5 => ck (mrt 1 x6) (some (.int x6, h5))))))) := by
  refine mE_eq (q := (yX10_shovel, cX10_shovel, 3, (some .boolean), KX10_shovel)) (C := KX10_shovel) (ls := [some (.ref 8), some (.int a1), some (.int a2)]) rfl rfl rfl rfl ?_
  refine mX_to 3 (k' := 3) (ls' := [some (.ref 8), some (.int a1), some (.int a2)]) (st' := [.int 8, .int 0, .int a1]) (h' := h) rfl ?_
  refine mX_cIe (o := F_X10_within d a1 0 8 h) (k' := 4) (ls' := [some (.ref 8), some (.int a1), some (.int a2)]) (st' := []) rfl ?_
  intro x2 h1 eh1
  have L1 : lay h1 := lay_call d 11 [.int a1, .int 0, .int 8] h _ h1 rfl eh1 L
  refine mX_br (t := 10) (f := 5) (ls' := [some (.ref 8), some (.int a1), some (.int a2)]) (st' := []) (h' := h1) rfl ?_ ?_
  · refine mX_to 1 (k' := 11) (ls' := [some (.ref 8), some (.int a1), some (.int a2)]) (st' := [.int 0]) (h' := h1) rfl ?_
    exact mX_retb (by decide) rfl
  · refine mX_to 3 (k' := 8) (ls' := [some (.ref 8), some (.int a1), some (.int a2)]) (st' := [.int 9, .int 1, .int a2]) (h' := h1) rfl ?_
    refine mX_cIe (o := F_X10_within d a2 1 9 h1) (k' := 9) (ls' := [some (.ref 8), some (.int a1), some (.int a2)]) (st' := []) rfl ?_
    intro x4 h3 eh3
    have L3 : lay h3 := lay_call d 11 [.int a2, .int 1, .int 9] h1 _ h3 rfl eh3 L1
    refine mX_br (t := 10) (f := 12) (ls' := [some (.ref 8), some (.int a1), some (.int a2)]) (st' := []) (h' := h3) rfl ?_ ?_
    · refine mX_to 1 (k' := 11) (ls' := [some (.ref 8), some (.int a1), some (.int a2)]) (st' := [.int 0]) (h' := h3) rfl ?_
      exact mX_retb (by decide) rfl
    · refine mX_to 1 (k' := 13) (ls' := [some (.ref 8), some (.int a1), some (.int a2)]) (st' := [.ref 8]) (h' := h3) rfl ?_
      refine mX_ckv (v := .ref (gR h3 8 0)) (v' := .ref 9) (k' := 14) (ls' := [some (.ref 8), some (.int a1), some (.int a2)]) (st' := []) (h' := h3) (k_8 L3) (congrArg Value.ref (r_8_0 L3)) rfl ?_
      refine mX_to 2 (k' := 16) (ls' := [some (.ref 8), some (.int a1), some (.int a2)]) (st' := [.int a2, .int a1, .ref 9]) (h' := h3) rfl ?_
      refine mX_ckct (m := mcl (mE mtab d 183 [.ref 9, .int a1, .int a2] h3) 1 17 [some (.ref 8), some (.int a1), some (.int a2)] []) (k_9 L3) rfl ?_
      refine mk_cIe (o := F_X0_shovels d a1 a2 h3) ?_
      intro x6 h5 eh5
      have L5 : lay h5 := lay_call d 183 [.ref 9, .int a1, .int a2] h3 _ h5 rfl eh5 L3
      exact mX_retc rfl
theorem S_X11_canShovel_34 {h : MH} (L : lay h) (d : Nat) (l1 : Int32) (l2 : Int32) (s0 : Int32) : G_X11_canShovel_34 d l1 l2 s0 h = ck (ib (13 + l1) 1498) (ck (ib (13 + l1) 1498) (lt_ (sI h 68 (ix (13 + l1)) ((gI h 68 (ix (13 + l1))) + l2)) fun h12 => ck (mrt 1 s0) (some (.int s0, h12)))) := by
  refine mX_to 2 (k' := 36) (ls' := [some (.ref 67), some (.int l1), some (.int l2), some (.int s0)]) (st' := [.ref 67]) (h' := h) rfl ?_
  refine mX_ckv (v := .ref (gR h 67 0)) (v' := .ref 68) (k' := 37) (ls' := [some (.ref 67), some (.int l1), some (.int l2), some (.int s0)]) (st' := []) (h' := h) (k_67 L) (congrArg Value.ref (r_67_0 L)) rfl ?_
  refine mX_to 4 (k' := 41) (ls' := [some (.ref 67), some (.int l1), some (.int l2), some (.int s0)]) (st' := [.int (13 + l1), .ref 68, .int (13 + l1), .ref 68]) (h' := h) rfl ?_
  refine mX_ckw (v := .int (gI h 68 (ix (13 + l1)))) (v' := .int (gI h 68 (ix (13 + l1)))) (k' := 42) (ls' := [some (.ref 67), some (.int l1), some (.int l2), some (.int s0)]) (st' := [.int (13 + l1), .ref 68]) (h' := h) (ckA1 (k_68 L) (n_68 L)) rfl rfl fun c13 => ?_
  refine mX_to 2 (k' := 44) (ls' := [some (.ref 67), some (.int l1), some (.int l2), some (.int s0)]) (st' := [.int ((gI h 68 (ix (13 + l1))) + l2), .int (13 + l1), .ref 68]) (h' := h) rfl ?_
  refine mX_cki (k' := 45) (ls' := [some (.ref 67), some (.int l1), some (.int l2), some (.int s0)]) (st' := []) (h' := (sI h 68 (ix (13 + l1)) ((gI h 68 (ix (13 + l1))) + l2))) (ckA0 (k_68 L) (n_68 L)) rfl fun c11 => ?_
  refine lt_geq2 (X := fun h12 : MH => mX (mE mtab d) KX11_canShovel 45 [some (.ref 67), some (.int l1), some (.int l2), some (.int s0)] [] h12) (a := (sI h 68 (ix (13 + l1)) ((gI h 68 (ix (13 + l1))) + l2))) (a' := (sI h 68 (ix (13 + l1)) ((gI h 68 (ix (13 + l1))) + l2))) rfl fun h12 eh12 => ?_
  have L12 : lay h12 := eh12 ▸ layI L (by decide)
  refine mX_to 1 (k' := 46) (ls' := [some (.ref 67), some (.int l1), some (.int l2), some (.int s0)]) (st' := [.int s0]) (h' := h12) rfl ?_
  exact mX_retc rfl
theorem S_X11_canShovel {h : MH} (L : lay h) (d : Nat) (a1 : Int32) (a2 : Int32) : F_X11_canShovel (d + 1) a1 a2 h = cI (F_X11_isPlace d a1 h) (fun x2 h1 => (if x2 = 0 then some (.int 0, h1) else cI (F_X11_isIn d a2 1 9 h1) (fun x4 h3 => (if x4 = 0 then some (.int 0, h3) else ck (ib (13 + a1) 1498) ((if (gI h3 68 (ix (13 + a1))) < a2 then some (.int 0, h3) else ck (ib (13 + a1) 1498) (ck (ib (13 + a1) 1498) (lt_ (sI h3 68 (ix (13 + a1)) ((gI h3 68 (ix (13 + a1))) - a2)) fun h6 => cI (F_X11_isFar d h6) (fun x8 h7 => (if x8 = 0 then G_X11_canShovel_34 d a1 a2 1 h7 else G_X11_canShovel_34 d a1 a2 0 h7)))))))))) := by
  refine mE_eq (q := (yX11_canShovel, cX11_canShovel, 4, (some .boolean), KX11_canShovel)) (C := KX11_canShovel) (ls := [some (.ref 67), some (.int a1), some (.int a2), none]) rfl rfl rfl rfl ?_
  refine mX_to 1 (k' := 1) (ls' := [some (.ref 67), some (.int a1), some (.int a2), none]) (st' := [.int a1]) (h' := h) rfl ?_
  refine mX_cIe (o := F_X11_isPlace d a1 h) (k' := 2) (ls' := [some (.ref 67), some (.int a1), some (.int a2), none]) (st' := []) rfl ?_
  intro x2 h1 eh1
  have L1 : lay h1 := lay_call d 15 [.int a1] h _ h1 rfl eh1 L
  refine mX_br (t := 16) (f := 3) (ls' := [some (.ref 67), some (.int a1), some (.int a2), none]) (st' := []) (h' := h1) rfl ?_ ?_
  · refine mX_to 1 (k' := 17) (ls' := [some (.ref 67), some (.int a1), some (.int a2), none]) (st' := [.int 0]) (h' := h1) rfl ?_
    exact mX_retb (by decide) rfl
  · refine mX_to 3 (k' := 6) (ls' := [some (.ref 67), some (.int a1), some (.int a2), none]) (st' := [.int 9, .int 1, .int a2]) (h' := h1) rfl ?_
    refine mX_cIe (o := F_X11_isIn d a2 1 9 h1) (k' := 7) (ls' := [some (.ref 67), some (.int a1), some (.int a2), none]) (st' := []) rfl ?_
    intro x4 h3 eh3
    have L3 : lay h3 := lay_call d 14 [.int a2, .int 1, .int 9] h1 _ h3 rfl eh3 L1
    refine mX_br (t := 16) (f := 8) (ls' := [some (.ref 67), some (.int a1), some (.int a2), none]) (st' := []) (h' := h3) rfl ?_ ?_
    · refine mX_to 1 (k' := 17) (ls' := [some (.ref 67), some (.int a1), some (.int a2), none]) (st' := [.int 0]) (h' := h3) rfl ?_
      exact mX_retb (by decide) rfl
    · refine mX_to 1 (k' := 9) (ls' := [some (.ref 67), some (.int a1), some (.int a2), none]) (st' := [.ref 67]) (h' := h3) rfl ?_
      refine mX_ckv (v := .ref (gR h3 67 0)) (v' := .ref 68) (k' := 10) (ls' := [some (.ref 67), some (.int a1), some (.int a2), none]) (st' := []) (h' := h3) (k_67 L3) (congrArg Value.ref (r_67_0 L3)) rfl ?_
      refine mX_to 3 (k' := 13) (ls' := [some (.ref 67), some (.int a1), some (.int a2), none]) (st' := [.int (13 + a1), .ref 68]) (h' := h3) rfl ?_
      refine mX_ckw (v := .int (gI h3 68 (ix (13 + a1)))) (v' := .int (gI h3 68 (ix (13 + a1)))) (k' := 14) (ls' := [some (.ref 67), some (.int a1), some (.int a2), none]) (st' := []) (h' := h3) (ckA1 (k_68 L3) (n_68 L3)) rfl rfl fun c10 => ?_
      refine mX_to 1 (k' := 15) (ls' := [some (.ref 67), some (.int a1), some (.int a2), none]) (st' := [.int a2, .int (gI h3 68 (ix (13 + a1)))]) (h' := h3) rfl ?_
      refine mX_br (t := 16) (f := 18) (ls' := [some (.ref 67), some (.int a1), some (.int a2), none]) (st' := []) (h' := h3) rfl ?_ ?_
      · refine mX_to 1 (k' := 17) (ls' := [some (.ref 67), some (.int a1), some (.int a2), none]) (st' := [.int 0]) (h' := h3) rfl ?_
        exact mX_retb (by decide) rfl
      · refine mX_to 1 (k' := 19) (ls' := [some (.ref 67), some (.int a1), some (.int a2), none]) (st' := [.ref 67]) (h' := h3) rfl ?_
        refine mX_ckv (v := .ref (gR h3 67 0)) (v' := .ref 68) (k' := 20) (ls' := [some (.ref 67), some (.int a1), some (.int a2), none]) (st' := []) (h' := h3) (k_67 L3) (congrArg Value.ref (r_67_0 L3)) rfl ?_
        refine mX_to 4 (k' := 24) (ls' := [some (.ref 67), some (.int a1), some (.int a2), none]) (st' := [.int (13 + a1), .ref 68, .int (13 + a1), .ref 68]) (h' := h3) rfl ?_
        refine mX_ckw (v := .int (gI h3 68 (ix (13 + a1)))) (v' := .int (gI h3 68 (ix (13 + a1)))) (k' := 25) (ls' := [some (.ref 67), some (.int a1), some (.int a2), none]) (st' := [.int (13 + a1), .ref 68]) (h' := h3) (ckA1 (k_68 L3) (n_68 L3)) rfl rfl fun c9 => ?_
        refine mX_to 2 (k' := 27) (ls' := [some (.ref 67), some (.int a1), some (.int a2), none]) (st' := [.int ((gI h3 68 (ix (13 + a1))) - a2), .int (13 + a1), .ref 68]) (h' := h3) rfl ?_
        refine mX_cki (k' := 28) (ls' := [some (.ref 67), some (.int a1), some (.int a2), none]) (st' := []) (h' := (sI h3 68 (ix (13 + a1)) ((gI h3 68 (ix (13 + a1))) - a2))) (ckA0 (k_68 L3) (n_68 L3)) rfl fun c5 => ?_
        refine lt_geq2 (X := fun h6 : MH => mX (mE mtab d) KX11_canShovel 28 [some (.ref 67), some (.int a1), some (.int a2), none] [] h6) (a := (sI h3 68 (ix (13 + a1)) ((gI h3 68 (ix (13 + a1))) - a2))) (a' := (sI h3 68 (ix (13 + a1)) ((gI h3 68 (ix (13 + a1))) - a2))) rfl fun h6 eh6 => ?_
        have L6 : lay h6 := eh6 ▸ layI L3 (by decide)
        refine mX_to 1 (k' := 29) (ls' := [some (.ref 67), some (.int a1), some (.int a2), none]) (st' := [.ref 67]) (h' := h6) rfl ?_
        refine mX_ckct (m := mcl (mE mtab d 173 [.ref 67] h6) 1 30 [some (.ref 67), some (.int a1), some (.int a2), none] []) (k_67 L6) rfl ?_
        refine mk_cIe (o := F_X11_isFar d h6) ?_
        intro x8 h7 eh7
        have L7 : lay h7 := lay_call d 173 [.ref 67] h6 _ h7 rfl eh7 L6
        refine mX_br (t := 31) (f := 33) (ls' := [some (.ref 67), some (.int a1), some (.int a2), none]) (st' := []) (h' := h7) rfl ?_ ?_
        · refine mX_to 2 (k' := 34) (ls' := [some (.ref 67), some (.int a1), some (.int a2), none]) (st' := [.int 1]) (h' := h7) rfl ?_
          rfl
        · refine mX_to 1 (k' := 34) (ls' := [some (.ref 67), some (.int a1), some (.int a2), none]) (st' := [.int 0]) (h' := h7) rfl ?_
          rfl
theorem S_X11_shovel {h : MH} (L : lay h) (d : Nat) (a1 : Int32) (a2 : Int32) : F_X11_shovel (d + 1) a1 a2 h = cI (F_X11_canShovel d a1 a2 h) (fun x2 h1 => (if x2 = 0 then some (.int 0, h1) else cV (F_X11_keep d h1) (fun h3 => ck (ib (13 + a1) 1498) (ck (ib (13 + a1) 1498) (lt_ (sI h3 68 (ix (13 + a1)) ((gI h3 68 (ix (13 + a1))) - a2)) fun h5 => some (.int 1, h5)))))) := by
  refine mE_eq (q := (yX11_shovel, cX11_shovel, 3, (some .boolean), KX11_shovel)) (C := KX11_shovel) (ls := [some (.ref 67), some (.int a1), some (.int a2)]) rfl rfl rfl rfl ?_
  refine mX_to 3 (k' := 3) (ls' := [some (.ref 67), some (.int a1), some (.int a2)]) (st' := [.int a2, .int a1, .ref 67]) (h' := h) rfl ?_
  refine mX_ckct (m := mcl (mE mtab d 185 [.ref 67, .int a1, .int a2] h) 1 4 [some (.ref 67), some (.int a1), some (.int a2)] []) (k_67 L) rfl ?_
  refine mk_cIe (o := F_X11_canShovel d a1 a2 h) ?_
  intro x2 h1 eh1
  have L1 : lay h1 := lay_call d 185 [.ref 67, .int a1, .int a2] h _ h1 rfl eh1 L
  refine mX_br (t := 5) (f := 7) (ls' := [some (.ref 67), some (.int a1), some (.int a2)]) (st' := []) (h' := h1) rfl ?_ ?_
  · refine mX_to 1 (k' := 6) (ls' := [some (.ref 67), some (.int a1), some (.int a2)]) (st' := [.int 0]) (h' := h1) rfl ?_
    exact mX_retb (by decide) rfl
  · refine mX_to 1 (k' := 8) (ls' := [some (.ref 67), some (.int a1), some (.int a2)]) (st' := [.ref 67]) (h' := h1) rfl ?_
    refine mX_ckct (m := mcl (mE mtab d 175 [.ref 67] h1) 0 9 [some (.ref 67), some (.int a1), some (.int a2)] []) (k_67 L1) rfl ?_
    refine mk_cVe (o := F_X11_keep d h1) ?_
    intro wh3 h3 eh3
    have L3 : lay h3 := lay_call d 175 [.ref 67] h1 _ h3 rfl eh3 L1
    refine mX_to 1 (k' := 10) (ls' := [some (.ref 67), some (.int a1), some (.int a2)]) (st' := [.ref 67]) (h' := h3) rfl ?_
    refine mX_ckv (v := .ref (gR h3 67 0)) (v' := .ref 68) (k' := 11) (ls' := [some (.ref 67), some (.int a1), some (.int a2)]) (st' := []) (h' := h3) (k_67 L3) (congrArg Value.ref (r_67_0 L3)) rfl ?_
    refine mX_to 4 (k' := 15) (ls' := [some (.ref 67), some (.int a1), some (.int a2)]) (st' := [.int (13 + a1), .ref 68, .int (13 + a1), .ref 68]) (h' := h3) rfl ?_
    refine mX_ckw (v := .int (gI h3 68 (ix (13 + a1)))) (v' := .int (gI h3 68 (ix (13 + a1)))) (k' := 16) (ls' := [some (.ref 67), some (.int a1), some (.int a2)]) (st' := [.int (13 + a1), .ref 68]) (h' := h3) (ckA1 (k_68 L3) (n_68 L3)) rfl rfl fun c6 => ?_
    refine mX_to 2 (k' := 18) (ls' := [some (.ref 67), some (.int a1), some (.int a2)]) (st' := [.int ((gI h3 68 (ix (13 + a1))) - a2), .int (13 + a1), .ref 68]) (h' := h3) rfl ?_
    refine mX_cki (k' := 19) (ls' := [some (.ref 67), some (.int a1), some (.int a2)]) (st' := []) (h' := (sI h3 68 (ix (13 + a1)) ((gI h3 68 (ix (13 + a1))) - a2))) (ckA0 (k_68 L3) (n_68 L3)) rfl fun c4 => ?_
    refine lt_geq2 (X := fun h5 : MH => mX (mE mtab d) KX11_shovel 19 [some (.ref 67), some (.int a1), some (.int a2)] [] h5) (a := (sI h3 68 (ix (13 + a1)) ((gI h3 68 (ix (13 + a1))) - a2))) (a' := (sI h3 68 (ix (13 + a1)) ((gI h3 68 (ix (13 + a1))) - a2))) rfl fun h5 eh5 => ?_
    have L5 : lay h5 := eh5 ▸ layI L3 (by decide)
    refine mX_to 1 (k' := 20) (ls' := [some (.ref 67), some (.int a1), some (.int a2)]) (st' := [.int 1]) (h' := h5) rfl ?_
    exact mX_retb (by decide) rfl
theorem S_X9_draw {h : MH} (L : lay h) (d : Nat) (q : Nat) (T : tAt q) : F_X9_draw (d + 1) q h = lt_ (sI h q 6 ((((gI h q 6) * 601) + 467) - (((gI h q 6) * 601) + 467) / 30841 * 30841)) fun h2 => some (.int (gI h q 6), h2) := by
  refine mE_eq (q := (yX9_draw, cX9_draw, 2, (some .int), KX9_draw)) (C := KX9_draw) (ls := [some (.ref q), none]) rfl rfl rfl rfl ?_
  refine mX_to 1 (k' := 1) (ls' := [some (.ref q), none]) (st' := [.ref q]) (h' := h) rfl ?_
  refine mX_ckv (v := .int (gI h q 6)) (v' := .int (gI h q 6)) (k' := 2) (ls' := [some (.ref q), none]) (st' := []) (h' := h) (kT0 L T) rfl rfl ?_
  refine mX_to 3 (k' := 5) (ls' := [some (.ref q), some (.int (gI h q 6))]) (st' := [.ref q, .ref q]) (h' := h) rfl ?_
  refine mX_ckv (v := .int (gI h q 6)) (v' := .int (gI h q 6)) (k' := 6) (ls' := [some (.ref q), some (.int (gI h q 6))]) (st' := [.ref q]) (h' := h) (kT0 L T) rfl rfl ?_
  refine mX_to 5 (k' := 11) (ls' := [some (.ref q), some (.int (gI h q 6))]) (st' := [.int 30841, .int (((gI h q 6) * 601) + 467), .ref q]) (h' := h) rfl ?_
  refine mX_ckt (c := ¬ (30841 : Int32) = 0) (k' := 12) (ls' := [some (.ref q), some (.int (gI h q 6))]) (st' := [.int ((((gI h q 6) * 601) + 467) - (((gI h q 6) * 601) + 467) / 30841 * 30841), .ref q]) (h' := h) (by decide) rfl ?_
  refine mX_ckt (k' := 13) (ls' := [some (.ref q), some (.int (gI h q 6))]) (st' := []) (h' := (sI h q 6 ((((gI h q 6) * 601) + 467) - (((gI h q 6) * 601) + 467) / 30841 * 30841))) (kT0 L T) rfl ?_
  refine lt_geq2 (X := fun h2 : MH => mX (mE mtab d) KX9_draw 13 [some (.ref q), some (.int (gI h q 6))] [] h2) (a := (sI h q 6 ((((gI h q 6) * 601) + 467) - (((gI h q 6) * 601) + 467) / 30841 * 30841))) (a' := (sI h q 6 ((((gI h q 6) * 601) + 467) - (((gI h q 6) * 601) + 467) / 30841 * 30841))) rfl fun h2 eh2 => ?_
  have L2 : lay h2 := eh2 ▸ layI L (neT0 T)
  refine mX_to 1 (k' := 14) (ls' := [some (.ref q), some (.int (gI h q 6))]) (st' := [.int (gI h q 6)]) (h' := h2) rfl ?_
  exact mX_reti rfl
theorem S_X9_slidesBy {h : MH} (L : lay h) (d : Nat) (q : Nat) (a1 : Nat) (a2 : Int32) (T : tAt q) : F_X9_slidesBy (d + 1) q a1 a2 h = (if a1 = 0 then some (.int 1, h) else ck (kd h a1 = 9) ((if (gR h a1 1) = 0 then some (.int 1, h) else ck (kd h a1 = 9) (ck (kd h (gR h a1 1) = 4) (cI (F_X3_valueFor d (gR h a1 1) q a2 h) (fun x2 h1 => some (.int (jmin (jmax x2 0) 3), h1))))))) := by
  refine mE_eq (q := (yX9_slidesBy, cX9_slidesBy, 3, (some .int), KX9_slidesBy)) (C := KX9_slidesBy) (ls := [some (.ref q), some (.ref a1), some (.int a2)]) rfl rfl rfl rfl ?_
  refine mX_to 1 (k' := 1) (ls' := [some (.ref q), some (.ref a1), some (.int a2)]) (st' := [.ref a1]) (h' := h) rfl ?_
  refine mX_br (t := 5) (f := 2) (ls' := [some (.ref q), some (.ref a1), some (.int a2)]) (st' := []) (h' := h) rfl ?_ ?_
  · refine mX_to 1 (k' := 6) (ls' := [some (.ref q), some (.ref a1), some (.int a2)]) (st' := [.int 1]) (h' := h) rfl ?_
    exact mX_reti rfl
  · refine mX_to 1 (k' := 3) (ls' := [some (.ref q), some (.ref a1), some (.int a2)]) (st' := [.ref a1]) (h' := h) rfl ?_
    refine mX_ckw (v := .ref (gR h a1 1)) (v' := .ref (gR h a1 1)) (k' := 4) (ls' := [some (.ref q), some (.ref a1), some (.int a2)]) (st' := []) (h' := h) Iff.rfl rfl rfl fun c4 => ?_
    refine mX_br (t := 5) (f := 7) (ls' := [some (.ref q), some (.ref a1), some (.int a2)]) (st' := []) (h' := h) rfl ?_ ?_
    · refine mX_to 1 (k' := 6) (ls' := [some (.ref q), some (.ref a1), some (.int a2)]) (st' := [.int 1]) (h' := h) rfl ?_
      exact mX_reti rfl
    · refine mX_to 1 (k' := 8) (ls' := [some (.ref q), some (.ref a1), some (.int a2)]) (st' := [.ref a1]) (h' := h) rfl ?_
      refine mX_ckw (v := .ref (gR h a1 1)) (v' := .ref (gR h a1 1)) (k' := 9) (ls' := [some (.ref q), some (.ref a1), some (.int a2)]) (st' := []) (h' := h) Iff.rfl rfl rfl fun c3 => ?_
      refine mX_to 2 (k' := 11) (ls' := [some (.ref q), some (.ref a1), some (.int a2)]) (st' := [.int a2, .ref q, .ref (gR h a1 1)]) (h' := h) rfl ?_
      refine mX_ckc (m := mcl (mE mtab d 144 [.ref (gR h a1 1), .ref q, .int a2] h) 1 12 [some (.ref q), some (.ref a1), some (.int a2)] []) rfl ?_
      refine mk_cIe (o := F_X3_valueFor d (gR h a1 1) q a2 h) ?_
      intro x2 h1 eh1
      have L1 : lay h1 := lay_call d 144 [.ref (gR h a1 1), .ref q, .int a2] h _ h1 rfl eh1 L
      refine mX_to 4 (k' := 16) (ls' := [some (.ref q), some (.ref a1), some (.int a2)]) (st' := [.int (jmin (jmax x2 0) 3)]) (h' := h1) rfl ?_
      exact mX_reti rfl
theorem S_X9_write_15 {h : MH} (L : lay h) (d : Nat) (q : Nat) (T : tAt q) (l1 : Int32) (l2 : Int32) (l3 : Int32) : G_X9_write_15 d q l1 l2 l3 h = ck (ib (gI h q 8) 30) (lt_ (sI h (q + 5) (ix (gI h q 8)) (((((((gI h q 5) * 4) + l1) * 9) + l2) * 9) + l3)) fun h6 => lt_ (sI h6 q 8 ((gI h6 q 8) + 1)) fun h8 => some (.int 0, h8)) := by
  refine mX_to 1 (k' := 16) (ls' := [some (.ref q), some (.int l1), some (.int l2), some (.int l3)]) (st' := [.ref q]) (h' := h) rfl ?_
  refine mX_ckv (v := .ref (gR h q 7)) (v' := .ref (q + 5)) (k' := 17) (ls' := [some (.ref q), some (.int l1), some (.int l2), some (.int l3)]) (st' := []) (h' := h) (kT0 L T) (congrArg Value.ref (rT7 L T)) rfl ?_
  refine mX_to 1 (k' := 18) (ls' := [some (.ref q), some (.int l1), some (.int l2), some (.int l3)]) (st' := [.ref q, .ref (q + 5)]) (h' := h) rfl ?_
  refine mX_ckv (v := .int (gI h q 8)) (v' := .int (gI h q 8)) (k' := 19) (ls' := [some (.ref q), some (.int l1), some (.int l2), some (.int l3)]) (st' := [.ref (q + 5)]) (h' := h) (kT0 L T) rfl rfl ?_
  refine mX_to 1 (k' := 20) (ls' := [some (.ref q), some (.int l1), some (.int l2), some (.int l3)]) (st' := [.ref q, .int (gI h q 8), .ref (q + 5)]) (h' := h) rfl ?_
  refine mX_ckv (v := .int (gI h q 5)) (v' := .int (gI h q 5)) (k' := 21) (ls' := [some (.ref q), some (.int l1), some (.int l2), some (.int l3)]) (st' := [.int (gI h q 8), .ref (q + 5)]) (h' := h) (kT0 L T) rfl rfl ?_
  refine mX_to 12 (k' := 33) (ls' := [some (.ref q), some (.int l1), some (.int l2), some (.int l3)]) (st' := [.int (((((((gI h q 5) * 4) + l1) * 9) + l2) * 9) + l3), .int (gI h q 8), .ref (q + 5)]) (h' := h) rfl ?_
  refine mX_cki (k' := 34) (ls' := [some (.ref q), some (.int l1), some (.int l2), some (.int l3)]) (st' := []) (h' := (sI h (q + 5) (ix (gI h q 8)) (((((((gI h q 5) * 4) + l1) * 9) + l2) * 9) + l3))) (ckA0 (kT5 L T) (nT5 L T)) rfl fun c5 => ?_
  refine lt_geq2 (X := fun h6 : MH => mX (mE mtab d) KX9_write 34 [some (.ref q), some (.int l1), some (.int l2), some (.int l3)] [] h6) (a := (sI h (q + 5) (ix (gI h q 8)) (((((((gI h q 5) * 4) + l1) * 9) + l2) * 9) + l3))) (a' := (sI h (q + 5) (ix (gI h q 8)) (((((((gI h q 5) * 4) + l1) * 9) + l2) * 9) + l3))) rfl fun h6 eh6 => ?_
  have L6 : lay h6 := eh6 ▸ layI L (neT5 T)
  refine mX_to 2 (k' := 36) (ls' := [some (.ref q), some (.int l1), some (.int l2), some (.int l3)]) (st' := [.ref q, .ref q]) (h' := h6) rfl ?_
  refine mX_ckv (v := .int (gI h6 q 8)) (v' := .int (gI h6 q 8)) (k' := 37) (ls' := [some (.ref q), some (.int l1), some (.int l2), some (.int l3)]) (st' := [.ref q]) (h' := h6) (kT0 L6 T) rfl rfl ?_
  refine mX_to 2 (k' := 39) (ls' := [some (.ref q), some (.int l1), some (.int l2), some (.int l3)]) (st' := [.int ((gI h6 q 8) + 1), .ref q]) (h' := h6) rfl ?_
  refine mX_ckt (k' := 40) (ls' := [some (.ref q), some (.int l1), some (.int l2), some (.int l3)]) (st' := []) (h' := (sI h6 q 8 ((gI h6 q 8) + 1))) (kT0 L6 T) rfl ?_
  refine lt_geq2 (X := fun h8 : MH => mX (mE mtab d) KX9_write 40 [some (.ref q), some (.int l1), some (.int l2), some (.int l3)] [] h8) (a := (sI h6 q 8 ((gI h6 q 8) + 1))) (a' := (sI h6 q 8 ((gI h6 q 8) + 1))) rfl fun h8 eh8 => ?_
  have L8 : lay h8 := eh8 ▸ layI L6 (neT0 T)
  exact mX_ret rfl
theorem S_X9_write {h : MH} (L : lay h) (d : Nat) (q : Nat) (a1 : Int32) (a2 : Int32) (a3 : Int32) (T : tAt q) : F_X9_write (d + 1) q a1 a2 a3 h = (if (gI h q 8) < 30 then G_X9_write_15 d q a1 a2 a3 h else lt_ (rI h (q + 5) (va_cpy (gI h (q + 5)) (gI h (q + 5)) 1 0 29)) fun h2 => lt_ (sI h2 q 8 29) fun h4 => G_X9_write_15 d q a1 a2 a3 h4) := by
  refine mE_eq (q := (yX9_write, cX9_write, 4, none, KX9_write)) (C := KX9_write) (ls := [some (.ref q), some (.int a1), some (.int a2), some (.int a3)]) rfl rfl rfl rfl ?_
  refine mX_to 1 (k' := 1) (ls' := [some (.ref q), some (.int a1), some (.int a2), some (.int a3)]) (st' := [.ref q]) (h' := h) rfl ?_
  refine mX_ckv (v := .int (gI h q 8)) (v' := .int (gI h q 8)) (k' := 2) (ls' := [some (.ref q), some (.int a1), some (.int a2), some (.int a3)]) (st' := []) (h' := h) (kT0 L T) rfl rfl ?_
  refine mX_to 1 (k' := 3) (ls' := [some (.ref q), some (.int a1), some (.int a2), some (.int a3)]) (st' := [.int 30, .int (gI h q 8)]) (h' := h) rfl ?_
  refine mX_br (t := 15) (f := 4) (ls' := [some (.ref q), some (.int a1), some (.int a2), some (.int a3)]) (st' := []) (h' := h) rfl ?_ ?_
  · rfl
  · refine mX_to 1 (k' := 5) (ls' := [some (.ref q), some (.int a1), some (.int a2), some (.int a3)]) (st' := [.ref q]) (h' := h) rfl ?_
    refine mX_ckv (v := .ref (gR h q 7)) (v' := .ref (q + 5)) (k' := 6) (ls' := [some (.ref q), some (.int a1), some (.int a2), some (.int a3)]) (st' := []) (h' := h) (kT0 L T) (congrArg Value.ref (rT7 L T)) rfl ?_
    refine mX_to 2 (k' := 8) (ls' := [some (.ref q), some (.int a1), some (.int a2), some (.int a3)]) (st' := [.ref q, .int 1, .ref (q + 5)]) (h' := h) rfl ?_
    refine mX_ckv (v := .ref (gR h q 7)) (v' := .ref (q + 5)) (k' := 9) (ls' := [some (.ref q), some (.int a1), some (.int a2), some (.int a3)]) (st' := [.int 1, .ref (q + 5)]) (h' := h) (kT0 L T) (congrArg Value.ref (rT7 L T)) rfl ?_
    refine mX_to 2 (k' := 11) (ls' := [some (.ref q), some (.int a1), some (.int a2), some (.int a3)]) (st' := [.int 29, .int 0, .ref (q + 5), .int 1, .ref (q + 5)]) (h' := h) rfl ?_
    refine mX_ckt (k' := 12) (ls' := [some (.ref q), some (.int a1), some (.int a2), some (.int a3)]) (st' := []) (h' := (rI h (q + 5) (va_cpy (gI h (q + 5)) (gI h (q + 5)) (ix (1 : Int32)) (ix (0 : Int32)) (ix (29 : Int32))))) (ckC (kT5 L T) (kT5 L T) (nT5 L T) (nT5 L T) (a := 1) (b := 0) (n := 29) rfl rfl rfl (by decide)) rfl ?_
    refine lt_geq2 (X := fun h2 : MH => mX (mE mtab d) KX9_write 12 [some (.ref q), some (.int a1), some (.int a2), some (.int a3)] [] h2) (a := (rI h (q + 5) (va_cpy (gI h (q + 5)) (gI h (q + 5)) (ix (1 : Int32)) (ix (0 : Int32)) (ix (29 : Int32))))) (a' := (rI h (q + 5) (va_cpy (gI h (q + 5)) (gI h (q + 5)) 1 0 29))) (cpy_lit (a := 1) (b := 0) (n := 29) rfl rfl rfl (by decide)) fun h2 eh2 => ?_
    have L2 : lay h2 := eh2 ▸ lay_rI L (neT5 T)
    refine mX_to 2 (k' := 14) (ls' := [some (.ref q), some (.int a1), some (.int a2), some (.int a3)]) (st' := [.int 29, .ref q]) (h' := h2) rfl ?_
    refine mX_ckt (k' := 15) (ls' := [some (.ref q), some (.int a1), some (.int a2), some (.int a3)]) (st' := []) (h' := (sI h2 q 8 29)) (kT0 L2 T) rfl ?_
    refine lt_geq2 (X := fun h4 : MH => mX (mE mtab d) KX9_write 15 [some (.ref q), some (.int a1), some (.int a2), some (.int a3)] [] h4) (a := (sI h2 q 8 29)) (a' := (sI h2 q 8 29)) rfl fun h4 eh4 => ?_
    have L4 : lay h4 := eh4 ▸ layI L2 (neT0 T)
    rfl
theorem S_X9_slideAll_2 {h : MH} (L : lay h) (d : Nat) (q : Nat) (T : tAt q) (l1 : Int32) (l2 : Int32) (o3 : Option Value) (o4 : Option Value) (o5 : Option Value) : G_X9_slideAll_2 d q l1 l2 o3 o4 o5 h = (if l2 < (gI h q 0) then ck (ib l2 4) (lt_ (gI h (q + 2) (ix l2)) fun v1 => cI (F_X9_slidesBy d q (gR h q 9) l2 h) (fun x3 h2 => (if l1 = 0 then G_X9_slideAll_30 d q l1 l2 v1 x3 (o5) (jmax (v1 - x3) 0) h2 else G_X9_slideAll_30 d q l1 l2 v1 x3 (o5) (jmin (v1 + x3) 8) h2))) else some (.int 0, h)) := by
  refine mX_to 2 (k' := 4) (ls' := [some (.ref q), some (.int l1), some (.int l2), o3, o4, o5]) (st' := [.ref q, .int l2]) (h' := h) rfl ?_
  refine mX_ckv (v := .int (gI h q 0)) (v' := .int (gI h q 0)) (k' := 5) (ls' := [some (.ref q), some (.int l1), some (.int l2), o3, o4, o5]) (st' := [.int l2]) (h' := h) (kT0 L T) rfl rfl ?_
  refine mX_br (t := 6) (f := 46) (ls' := [some (.ref q), some (.int l1), some (.int l2), o3, o4, o5]) (st' := []) (h' := h) rfl ?_ ?_
  · refine mX_to 1 (k' := 7) (ls' := [some (.ref q), some (.int l1), some (.int l2), o3, o4, o5]) (st' := [.ref q]) (h' := h) rfl ?_
    refine mX_ckv (v := .ref (gR h q 2)) (v' := .ref (q + 2)) (k' := 8) (ls' := [some (.ref q), some (.int l1), some (.int l2), o3, o4, o5]) (st' := []) (h' := h) (kT0 L T) (congrArg Value.ref (rT2 L T)) rfl ?_
    refine mX_to 1 (k' := 9) (ls' := [some (.ref q), some (.int l1), some (.int l2), o3, o4, o5]) (st' := [.int l2, .ref (q + 2)]) (h' := h) rfl ?_
    refine mX_ckw (v := .int (gI h (q + 2) (ix l2))) (v' := .int (gI h (q + 2) (ix l2))) (k' := 10) (ls' := [some (.ref q), some (.int l1), some (.int l2), o3, o4, o5]) (st' := []) (h' := h) (ckA1 (kT2 L T) (nT2 L T)) rfl rfl fun c4 => ?_
    refine lt_gen (X := fun v1 : Int32 => mX (mE mtab d) KX9_slideAll 10 [some (.ref q), some (.int l1), some (.int l2), o3, o4, o5] [.int v1] h) fun v1 => ?_
    refine mX_to 3 (k' := 13) (ls' := [some (.ref q), some (.int l1), some (.int l2), some (.int v1), o4, o5]) (st' := [.ref q, .ref q]) (h' := h) rfl ?_
    refine mX_ckv (v := .ref (gR h q 9)) (v' := .ref (gR h q 9)) (k' := 14) (ls' := [some (.ref q), some (.int l1), some (.int l2), some (.int v1), o4, o5]) (st' := [.ref q]) (h' := h) (kT0 L T) rfl rfl ?_
    refine mX_to 1 (k' := 15) (ls' := [some (.ref q), some (.int l1), some (.int l2), some (.int v1), o4, o5]) (st' := [.int l2, .ref (gR h q 9), .ref q]) (h' := h) rfl ?_
    refine mX_ckct (m := mcl (mE mtab d 188 [.ref q, .ref (gR h q 9), .int l2] h) 1 16 [some (.ref q), some (.int l1), some (.int l2), some (.int v1), o4, o5] []) (kT0 L T) rfl ?_
    refine mk_cIe (o := F_X9_slidesBy d q (gR h q 9) l2 h) ?_
    intro x3 h2 eh2
    have L2 : lay h2 := lay_call d 188 [.ref q, .ref (gR h q 9), .int l2] h _ h2 rfl eh2 L
    refine mX_to 2 (k' := 18) (ls' := [some (.ref q), some (.int l1), some (.int l2), some (.int v1), some (.int x3), o5]) (st' := [.int l1]) (h' := h2) rfl ?_
    refine mX_br (t := 25) (f := 19) (ls' := [some (.ref q), some (.int l1), some (.int l2), some (.int v1), some (.int x3), o5]) (st' := []) (h' := h2) rfl ?_ ?_
    · refine mX_to 5 (k' := 30) (ls' := [some (.ref q), some (.int l1), some (.int l2), some (.int v1), some (.int x3), o5]) (st' := [.int (jmax (v1 - x3) 0)]) (h' := h2) rfl ?_
      rfl
    · refine mX_to 6 (k' := 30) (ls' := [some (.ref q), some (.int l1), some (.int l2), some (.int v1), some (.int x3), o5]) (st' := [.int (jmin (v1 + x3) 8)]) (h' := h2) rfl ?_
      rfl
  · exact mX_ret rfl
theorem S_X9_slideAll_30 {h : MH} (L : lay h) (d : Nat) (q : Nat) (T : tAt q) (l1 : Int32) (l2 : Int32) (l3 : Int32) (l4 : Int32) (o5 : Option Value) (s0 : Int32) : G_X9_slideAll_30 d q l1 l2 l3 l4 o5 s0 h = (if s0 = l3 then G_X9_slideAll_44 d q l1 l2 l3 l4 s0 h else cV (F_X9_write d q l2 l3 s0 h) (fun h5 => ck (ib l2 4) (lt_ (sI h5 (q + 2) (ix l2) s0) fun h7 => G_X9_slideAll_44 d q l1 l2 l3 l4 s0 h7))) := by
  refine mX_to 3 (k' := 33) (ls' := [some (.ref q), some (.int l1), some (.int l2), some (.int l3), some (.int l4), some (.int s0)]) (st' := [.int l3, .int s0]) (h' := h) rfl ?_
  refine mX_br (t := 44) (f := 34) (ls' := [some (.ref q), some (.int l1), some (.int l2), some (.int l3), some (.int l4), some (.int s0)]) (st' := []) (h' := h) rfl ?_ ?_
  · rfl
  · refine mX_to 4 (k' := 38) (ls' := [some (.ref q), some (.int l1), some (.int l2), some (.int l3), some (.int l4), some (.int s0)]) (st' := [.int s0, .int l3, .int l2, .ref q]) (h' := h) rfl ?_
    refine mX_ckct (m := mcl (mE mtab d 189 [.ref q, .int l2, .int l3, .int s0] h) 0 39 [some (.ref q), some (.int l1), some (.int l2), some (.int l3), some (.int l4), some (.int s0)] []) (kT0 L T) rfl ?_
    refine mk_cVe (o := F_X9_write d q l2 l3 s0 h) ?_
    intro wh5 h5 eh5
    have L5 : lay h5 := lay_call d 189 [.ref q, .int l2, .int l3, .int s0] h _ h5 rfl eh5 L
    refine mX_to 1 (k' := 40) (ls' := [some (.ref q), some (.int l1), some (.int l2), some (.int l3), some (.int l4), some (.int s0)]) (st' := [.ref q]) (h' := h5) rfl ?_
    refine mX_ckv (v := .ref (gR h5 q 2)) (v' := .ref (q + 2)) (k' := 41) (ls' := [some (.ref q), some (.int l1), some (.int l2), some (.int l3), some (.int l4), some (.int s0)]) (st' := []) (h' := h5) (kT0 L5 T) (congrArg Value.ref (rT2 L5 T)) rfl ?_
    refine mX_to 2 (k' := 43) (ls' := [some (.ref q), some (.int l1), some (.int l2), some (.int l3), some (.int l4), some (.int s0)]) (st' := [.int s0, .int l2, .ref (q + 2)]) (h' := h5) rfl ?_
    refine mX_cki (k' := 44) (ls' := [some (.ref q), some (.int l1), some (.int l2), some (.int l3), some (.int l4), some (.int s0)]) (st' := []) (h' := (sI h5 (q + 2) (ix l2) s0)) (ckA0 (kT2 L5 T) (nT2 L5 T)) rfl fun c6 => ?_
    refine lt_geq2 (X := fun h7 : MH => mX (mE mtab d) KX9_slideAll 44 [some (.ref q), some (.int l1), some (.int l2), some (.int l3), some (.int l4), some (.int s0)] [] h7) (a := (sI h5 (q + 2) (ix l2) s0)) (a' := (sI h5 (q + 2) (ix l2) s0)) rfl fun h7 eh7 => ?_
    have L7 : lay h7 := eh7 ▸ layI L5 (neT2 T)
    rfl
theorem S_X9_slideAll_44 {h : MH} (L : lay h) (d : Nat) (q : Nat) (T : tAt q) (l1 : Int32) (l2 : Int32) (l3 : Int32) (l4 : Int32) (l5 : Int32) : G_X9_slideAll_44 d q l1 l2 l3 l4 l5 h = G_X9_slideAll_2 d q l1 (l2 + 1) (some (.int l3)) (some (.int l4)) (some (.int l5)) h := by
  refine mX_to 2 (k' := 2) (ls' := [some (.ref q), some (.int l1), some (.int (l2 + 1)), some (.int l3), some (.int l4), some (.int l5)]) (st' := []) (h' := h) rfl ?_
  rfl
theorem S_X9_slideAll {h : MH} (L : lay h) (d : Nat) (q : Nat) (a1 : Int32) (T : tAt q) : F_X9_slideAll (d + 1) q a1 h = G_X9_slideAll_2 d q a1 0 none none none h := by
  refine mE_eq (q := (yX9_slideAll, cX9_slideAll, 6, none, KX9_slideAll)) (C := KX9_slideAll) (ls := [some (.ref q), some (.int a1), none, none, none, none]) rfl rfl rfl rfl ?_
  refine mX_to 2 (k' := 2) (ls' := [some (.ref q), some (.int a1), some (.int 0), none, none, none]) (st' := []) (h' := h) rfl ?_
  rfl
theorem S_X9_passHour_28 {h : MH} (L : lay h) (d : Nat) (q : Nat) (T : tAt q) (l1 : Int32) (l2 : Int32) (s0 : Int32) : G_X9_passHour_28 d q l1 l2 s0 h = (if s0 = 0 then G_X9_passHour_38 d q l1 l2 s0 h else (if l2 ≤ 0 then G_X9_passHour_37 d q l1 l2 s0 0 h else G_X9_passHour_37 d q l1 l2 s0 1 h)) := by
  refine mX_to 2 (k' := 30) (ls' := [some (.ref q), some (.int l1), some (.int l2), some (.int s0)]) (st' := [.int s0]) (h' := h) rfl ?_
  refine mX_br (t := 38) (f := 31) (ls' := [some (.ref q), some (.int l1), some (.int l2), some (.int s0)]) (st' := []) (h' := h) rfl ?_ ?_
  · rfl
  · refine mX_to 2 (k' := 33) (ls' := [some (.ref q), some (.int l1), some (.int l2), some (.int s0)]) (st' := [.int l2, .ref q]) (h' := h) rfl ?_
    refine mX_br (t := 36) (f := 34) (ls' := [some (.ref q), some (.int l1), some (.int l2), some (.int s0)]) (st' := [.ref q]) (h' := h) rfl ?_ ?_
    · refine mX_to 1 (k' := 37) (ls' := [some (.ref q), some (.int l1), some (.int l2), some (.int s0)]) (st' := [.int 0, .ref q]) (h' := h) rfl ?_
      rfl
    · refine mX_to 2 (k' := 37) (ls' := [some (.ref q), some (.int l1), some (.int l2), some (.int s0)]) (st' := [.int 1, .ref q]) (h' := h) rfl ?_
      rfl
theorem S_X9_passHour_38 {h : MH} (L : lay h) (d : Nat) (q : Nat) (T : tAt q) (l1 : Int32) (l2 : Int32) (l3 : Int32) : G_X9_passHour_38 d q l1 l2 l3 h = lt_ (sI h q 5 ((gI h q 5) + 1)) fun h12 => ck (mrt 1 l3) (some (.int l3, h12)) := by
  refine mX_to 2 (k' := 40) (ls' := [some (.ref q), some (.int l1), some (.int l2), some (.int l3)]) (st' := [.ref q, .ref q]) (h' := h) rfl ?_
  refine mX_ckv (v := .int (gI h q 5)) (v' := .int (gI h q 5)) (k' := 41) (ls' := [some (.ref q), some (.int l1), some (.int l2), some (.int l3)]) (st' := [.ref q]) (h' := h) (kT0 L T) rfl rfl ?_
  refine mX_to 2 (k' := 43) (ls' := [some (.ref q), some (.int l1), some (.int l2), some (.int l3)]) (st' := [.int ((gI h q 5) + 1), .ref q]) (h' := h) rfl ?_
  refine mX_ckt (k' := 44) (ls' := [some (.ref q), some (.int l1), some (.int l2), some (.int l3)]) (st' := []) (h' := (sI h q 5 ((gI h q 5) + 1))) (kT0 L T) rfl ?_
  refine lt_geq2 (X := fun h12 : MH => mX (mE mtab d) KX9_passHour 44 [some (.ref q), some (.int l1), some (.int l2), some (.int l3)] [] h12) (a := (sI h q 5 ((gI h q 5) + 1))) (a' := (sI h q 5 ((gI h q 5) + 1))) rfl fun h12 eh12 => ?_
  have L12 : lay h12 := eh12 ▸ layI L (neT0 T)
  refine mX_to 1 (k' := 45) (ls' := [some (.ref q), some (.int l1), some (.int l2), some (.int l3)]) (st' := [.int l3]) (h' := h12) rfl ?_
  exact mX_retc rfl
theorem S_X9_passHour_37 {h : MH} (L : lay h) (d : Nat) (q : Nat) (T : tAt q) (l1 : Int32) (l2 : Int32) (l3 : Int32) (s0 : Int32) : G_X9_passHour_37 d q l1 l2 l3 s0 h = cV (F_X9_slideAll d q s0 h) (fun h13 => G_X9_passHour_38 d q l1 l2 l3 h13) := by
  refine mX_ckct (m := mcl (mE mtab d 190 [.ref q, .int s0] h) 0 38 [some (.ref q), some (.int l1), some (.int l2), some (.int l3)] []) (kT0 L T) rfl ?_
  refine mk_cVe (o := F_X9_slideAll d q s0 h) ?_
  intro wh13 h13 eh13
  have L13 : lay h13 := lay_call d 190 [.ref q, .int s0] h _ h13 rfl eh13 L
  rfl
theorem S_X9_passHour {h : MH} (L : lay h) (d : Nat) (q : Nat) (T : tAt q) : F_X9_passHour (d + 1) q h = cI (F_X9_draw d q h) (fun x2 h1 => lt_ (x2 - x2 / 9 * 9) fun v3 => ck (ib v3 9) (ck (ib v3 9) (lt_ (sI h1 (q + 4) (ix v3) (jmin ((gI h1 (q + 4) (ix v3)) + 1) 9)) fun h5 => cI (F_X9_tipNow d q h5) (fun x7 h6 => cI (F_X9_tipsNow d q h6) (fun x9 h8 => (if (jabs x7) ≤ x9 then G_X9_passHour_28 d q v3 x7 0 h8 else G_X9_passHour_28 d q v3 x7 1 h8)))))) := by
  refine mE_eq (q := (yX9_passHour, cX9_passHour, 4, (some .boolean), KX9_passHour)) (C := KX9_passHour) (ls := [some (.ref q), none, none, none]) rfl rfl rfl rfl ?_
  refine mX_to 1 (k' := 1) (ls' := [some (.ref q), none, none, none]) (st' := [.ref q]) (h' := h) rfl ?_
  refine mX_ckct (m := mcl (mE mtab d 187 [.ref q] h) 1 2 [some (.ref q), none, none, none] []) (kT0 L T) rfl ?_
  refine mk_cIe (o := F_X9_draw d q h) ?_
  intro x2 h1 eh1
  have L1 : lay h1 := lay_call d 187 [.ref q] h _ h1 rfl eh1 L
  refine mX_to 1 (k' := 3) (ls' := [some (.ref q), none, none, none]) (st' := [.int 9, .int x2]) (h' := h1) rfl ?_
  refine mX_ckt (c := ¬ (9 : Int32) = 0) (k' := 4) (ls' := [some (.ref q), none, none, none]) (st' := [.int (x2 - x2 / 9 * 9)]) (h' := h1) (by decide) rfl ?_
  refine lt_gen (X := fun v3 : Int32 => mX (mE mtab d) KX9_passHour 4 [some (.ref q), none, none, none] [.int v3] h1) fun v3 => ?_
  refine mX_to 2 (k' := 6) (ls' := [some (.ref q), some (.int v3), none, none]) (st' := [.ref q]) (h' := h1) rfl ?_
  refine mX_ckv (v := .ref (gR h1 q 4)) (v' := .ref (q + 4)) (k' := 7) (ls' := [some (.ref q), some (.int v3), none, none]) (st' := []) (h' := h1) (kT0 L1 T) (congrArg Value.ref (rT4 L1 T)) rfl ?_
  refine mX_to 2 (k' := 9) (ls' := [some (.ref q), some (.int v3), none, none]) (st' := [.ref q, .int v3, .ref (q + 4)]) (h' := h1) rfl ?_
  refine mX_ckv (v := .ref (gR h1 q 4)) (v' := .ref (q + 4)) (k' := 10) (ls' := [some (.ref q), some (.int v3), none, none]) (st' := [.int v3, .ref (q + 4)]) (h' := h1) (kT0 L1 T) (congrArg Value.ref (rT4 L1 T)) rfl ?_
  refine mX_to 1 (k' := 11) (ls' := [some (.ref q), some (.int v3), none, none]) (st' := [.int v3, .ref (q + 4), .int v3, .ref (q + 4)]) (h' := h1) rfl ?_
  refine mX_ckw (v := .int (gI h1 (q + 4) (ix v3))) (v' := .int (gI h1 (q + 4) (ix v3))) (k' := 12) (ls' := [some (.ref q), some (.int v3), none, none]) (st' := [.int v3, .ref (q + 4)]) (h' := h1) (ckA1 (kT4 L1 T) (nT4 L1 T)) rfl rfl fun c10 => ?_
  refine mX_to 4 (k' := 16) (ls' := [some (.ref q), some (.int v3), none, none]) (st' := [.int (jmin ((gI h1 (q + 4) (ix v3)) + 1) 9), .int v3, .ref (q + 4)]) (h' := h1) rfl ?_
  refine mX_cki (k' := 17) (ls' := [some (.ref q), some (.int v3), none, none]) (st' := []) (h' := (sI h1 (q + 4) (ix v3) (jmin ((gI h1 (q + 4) (ix v3)) + 1) 9))) (ckA0 (kT4 L1 T) (nT4 L1 T)) rfl fun c4 => ?_
  refine lt_geq2 (X := fun h5 : MH => mX (mE mtab d) KX9_passHour 17 [some (.ref q), some (.int v3), none, none] [] h5) (a := (sI h1 (q + 4) (ix v3) (jmin ((gI h1 (q + 4) (ix v3)) + 1) 9))) (a' := (sI h1 (q + 4) (ix v3) (jmin ((gI h1 (q + 4) (ix v3)) + 1) 9))) rfl fun h5 eh5 => ?_
  have L5 : lay h5 := eh5 ▸ layI L1 (neT4 T)
  refine mX_to 1 (k' := 18) (ls' := [some (.ref q), some (.int v3), none, none]) (st' := [.ref q]) (h' := h5) rfl ?_
  refine mX_ckct (m := mcl (mE mtab d 139 [.ref q] h5) 1 19 [some (.ref q), some (.int v3), none, none] []) (kT0 L5 T) rfl ?_
  refine mk_cIe (o := F_X9_tipNow d q h5) ?_
  intro x7 h6 eh6
  have L6 : lay h6 := lay_call d 139 [.ref q] h5 _ h6 rfl eh6 L5
  refine mX_to 4 (k' := 23) (ls' := [some (.ref q), some (.int v3), some (.int x7), none]) (st' := [.ref q, .int (jabs x7)]) (h' := h6) rfl ?_
  refine mX_ckct (m := mcl (mE mtab d 145 [.ref q] h6) 1 24 [some (.ref q), some (.int v3), some (.int x7), none] [.int (jabs x7)]) (kT0 L6 T) rfl ?_
  refine mk_cIe (o := F_X9_tipsNow d q h6) ?_
  intro x9 h8 eh8
  have L8 : lay h8 := lay_call d 145 [.ref q] h6 _ h8 rfl eh8 L6
  refine mX_br (t := 27) (f := 25) (ls' := [some (.ref q), some (.int v3), some (.int x7), none]) (st' := []) (h' := h8) rfl ?_ ?_
  · refine mX_to 1 (k' := 28) (ls' := [some (.ref q), some (.int v3), some (.int x7), none]) (st' := [.int 0]) (h' := h8) rfl ?_
    rfl
  · refine mX_to 2 (k' := 28) (ls' := [some (.ref q), some (.int v3), some (.int x7), none]) (st' := [.int 1]) (h' := h8) rfl ?_
    rfl
theorem S_X0_waits_4 {h : MH} (L : lay h) (d : Nat) (l1 : Int32) (l2 : Int32) (l3 : Int32) : G_X0_waits_4 d l1 l2 l3 h = (if l3 < l1 then (if (gI h 10 5) < 9999 then cV (F_X6_mark d h) (fun h1 => cI (F_X9_passHour d 10 h1) (fun x3 h2 => (if x3 = 0 then G_X0_waits_25 d l1 l2 l3 0 l2 h2 else G_X0_waits_25 d l1 l2 l3 1 l2 h2))) else some (.int l2, h)) else some (.int l2, h)) := by
  refine mX_to 2 (k' := 6) (ls' := [some (.ref 9), some (.int l1), some (.int l2), some (.int l3)]) (st' := [.int l1, .int l3]) (h' := h) rfl ?_
  refine mX_br (t := 7) (f := 34) (ls' := [some (.ref 9), some (.int l1), some (.int l2), some (.int l3)]) (st' := []) (h' := h) rfl ?_ ?_
  · refine mX_to 1 (k' := 8) (ls' := [some (.ref 9), some (.int l1), some (.int l2), some (.int l3)]) (st' := [.ref 9]) (h' := h) rfl ?_
    refine mX_ckv (v := .ref (gR h 9 0)) (v' := .ref 10) (k' := 9) (ls' := [some (.ref 9), some (.int l1), some (.int l2), some (.int l3)]) (st' := []) (h' := h) (k_9 L) (congrArg Value.ref (r_9_0 L)) rfl ?_
    refine mX_ckv (v := .int (gI h 10 5)) (v' := .int (gI h 10 5)) (k' := 10) (ls' := [some (.ref 9), some (.int l1), some (.int l2), some (.int l3)]) (st' := []) (h' := h) (k_10 L) rfl rfl ?_
    refine mX_to 1 (k' := 11) (ls' := [some (.ref 9), some (.int l1), some (.int l2), some (.int l3)]) (st' := [.int 9999, .int (gI h 10 5)]) (h' := h) rfl ?_
    refine mX_br (t := 12) (f := 34) (ls' := [some (.ref 9), some (.int l1), some (.int l2), some (.int l3)]) (st' := []) (h' := h) rfl ?_ ?_
    · refine mX_to 1 (k' := 13) (ls' := [some (.ref 9), some (.int l1), some (.int l2), some (.int l3)]) (st' := [.ref 9]) (h' := h) rfl ?_
      refine mX_ckv (v := .ref (gR h 9 1)) (v' := .ref 17) (k' := 14) (ls' := [some (.ref 9), some (.int l1), some (.int l2), some (.int l3)]) (st' := []) (h' := h) (k_9 L) (congrArg Value.ref (r_9_1 L)) rfl ?_
      refine mX_to 1 (k' := 15) (ls' := [some (.ref 9), some (.int l1), some (.int l2), some (.int l3)]) (st' := [.ref 9, .ref 17]) (h' := h) rfl ?_
      refine mX_ckv (v := .ref (gR h 9 0)) (v' := .ref 10) (k' := 16) (ls' := [some (.ref 9), some (.int l1), some (.int l2), some (.int l3)]) (st' := [.ref 17]) (h' := h) (k_9 L) (congrArg Value.ref (r_9_0 L)) rfl ?_
      refine mX_ckct (m := mcl (mE mtab d 137 [.ref 17, .ref 10] h) 0 17 [some (.ref 9), some (.int l1), some (.int l2), some (.int l3)] []) (k_17 L) rfl ?_
      refine mk_cVe (o := F_X6_mark d h) ?_
      intro wh1 h1 eh1
      have L1 : lay h1 := lay_call d 137 [.ref 17, .ref 10] h _ h1 rfl eh1 L
      refine mX_to 2 (k' := 19) (ls' := [some (.ref 9), some (.int l1), some (.int l2), some (.int l3)]) (st' := [.ref 9, .int l2]) (h' := h1) rfl ?_
      refine mX_ckv (v := .ref (gR h1 9 0)) (v' := .ref 10) (k' := 20) (ls' := [some (.ref 9), some (.int l1), some (.int l2), some (.int l3)]) (st' := [.int l2]) (h' := h1) (k_9 L1) (congrArg Value.ref (r_9_0 L1)) rfl ?_
      refine mX_ckct (m := mcl (mE mtab d 191 [.ref 10] h1) 1 21 [some (.ref 9), some (.int l1), some (.int l2), some (.int l3)] [.int l2]) (k_10 L1) rfl ?_
      refine mk_cIe (o := F_X9_passHour d 10 h1) ?_
      intro x3 h2 eh2
      have L2 : lay h2 := lay_call d 191 [.ref 10] h1 _ h2 rfl eh2 L1
      refine mX_br (t := 24) (f := 22) (ls' := [some (.ref 9), some (.int l1), some (.int l2), some (.int l3)]) (st' := [.int l2]) (h' := h2) rfl ?_ ?_
      · refine mX_to 1 (k' := 25) (ls' := [some (.ref 9), some (.int l1), some (.int l2), some (.int l3)]) (st' := [.int 0, .int l2]) (h' := h2) rfl ?_
        rfl
      · refine mX_to 2 (k' := 25) (ls' := [some (.ref 9), some (.int l1), some (.int l2), some (.int l3)]) (st' := [.int 1, .int l2]) (h' := h2) rfl ?_
        rfl
    · refine mX_to 1 (k' := 35) (ls' := [some (.ref 9), some (.int l1), some (.int l2), some (.int l3)]) (st' := [.int l2]) (h' := h) rfl ?_
      exact mX_reti rfl
  · refine mX_to 1 (k' := 35) (ls' := [some (.ref 9), some (.int l1), some (.int l2), some (.int l3)]) (st' := [.int l2]) (h' := h) rfl ?_
    exact mX_reti rfl
theorem S_X0_waits_25 {h : MH} (L : lay h) (d : Nat) (l1 : Int32) (l2 : Int32) (l3 : Int32) (s0 : Int32) (s1 : Int32) : G_X0_waits_25 d l1 l2 l3 s0 s1 h = cI (F_X6_keptIf d 1 h) (fun x5 h4 => G_X0_waits_4 d l1 (s1 + s0) (l3 + 1) h4) := by
  refine mX_to 3 (k' := 28) (ls' := [some (.ref 9), some (.int l1), some (.int (s1 + s0)), some (.int l3)]) (st' := [.ref 9]) (h' := h) rfl ?_
  refine mX_ckv (v := .ref (gR h 9 1)) (v' := .ref 17) (k' := 29) (ls' := [some (.ref 9), some (.int l1), some (.int (s1 + s0)), some (.int l3)]) (st' := []) (h' := h) (k_9 L) (congrArg Value.ref (r_9_1 L)) rfl ?_
  refine mX_to 1 (k' := 30) (ls' := [some (.ref 9), some (.int l1), some (.int (s1 + s0)), some (.int l3)]) (st' := [.int 1, .ref 17]) (h' := h) rfl ?_
  refine mX_ckct (m := mcl (mE mtab d 148 [.ref 17, .int 1] h) 1 31 [some (.ref 9), some (.int l1), some (.int (s1 + s0)), some (.int l3)] []) (k_17 L) rfl ?_
  refine mk_cIe (o := F_X6_keptIf d 1 h) ?_
  intro x5 h4 eh4
  have L4 : lay h4 := lay_call d 148 [.ref 17, .int 1] h _ h4 rfl eh4 L
  refine mX_to 3 (k' := 4) (ls' := [some (.ref 9), some (.int l1), some (.int (s1 + s0)), some (.int (l3 + 1))]) (st' := []) (h' := h4) rfl ?_
  rfl
theorem S_X0_waits {h : MH} (L : lay h) (d : Nat) (a1 : Int32) : F_X0_waits (d + 1) a1 h = G_X0_waits_4 d a1 0 0 h := by
  refine mE_eq (q := (yX0_waits, cX0_waits, 4, (some .int), KX0_waits)) (C := KX0_waits) (ls := [some (.ref 9), some (.int a1), none, none]) rfl rfl rfl rfl ?_
  refine mX_to 4 (k' := 4) (ls' := [some (.ref 9), some (.int a1), some (.int 0), some (.int 0)]) (st' := []) (h' := h) rfl ?_
  rfl
theorem S_X10_hour {h : MH} (L : lay h) (d : Nat) (a1 : Int32) : F_X10_hour (d + 1) a1 h = cI (F_X10_within d a1 1 60 h) (fun x2 h1 => (if x2 = 0 then some (.int (-1), h1) else (if ((gI h1 10 5) + a1) ≤ 9999 then cI (F_X0_waits d a1 h1) (fun x4 h3 => some (.int x4, h3)) else some (.int (-1), h1)))) := by
  refine mE_eq (q := (yX10_hour, cX10_hour, 2, (some .int), KX10_hour)) (C := KX10_hour) (ls := [some (.ref 8), some (.int a1)]) rfl rfl rfl rfl ?_
  refine mX_to 3 (k' := 3) (ls' := [some (.ref 8), some (.int a1)]) (st' := [.int 60, .int 1, .int a1]) (h' := h) rfl ?_
  refine mX_cIe (o := F_X10_within d a1 1 60 h) (k' := 4) (ls' := [some (.ref 8), some (.int a1)]) (st' := []) rfl ?_
  intro x2 h1 eh1
  have L1 : lay h1 := lay_call d 11 [.int a1, .int 1, .int 60] h _ h1 rfl eh1 L
  refine mX_br (t := 13) (f := 5) (ls' := [some (.ref 8), some (.int a1)]) (st' := []) (h' := h1) rfl ?_ ?_
  · refine mX_to 1 (k' := 14) (ls' := [some (.ref 8), some (.int a1)]) (st' := [.int (-1)]) (h' := h1) rfl ?_
    exact mX_reti rfl
  · refine mX_to 1 (k' := 6) (ls' := [some (.ref 8), some (.int a1)]) (st' := [.ref 8]) (h' := h1) rfl ?_
    refine mX_ckv (v := .ref (gR h1 8 0)) (v' := .ref 9) (k' := 7) (ls' := [some (.ref 8), some (.int a1)]) (st' := []) (h' := h1) (k_8 L1) (congrArg Value.ref (r_8_0 L1)) rfl ?_
    refine mX_ckv (v := .ref (gR h1 9 0)) (v' := .ref 10) (k' := 8) (ls' := [some (.ref 8), some (.int a1)]) (st' := []) (h' := h1) (k_9 L1) (congrArg Value.ref (r_9_0 L1)) rfl ?_
    refine mX_ckv (v := .int (gI h1 10 5)) (v' := .int (gI h1 10 5)) (k' := 9) (ls' := [some (.ref 8), some (.int a1)]) (st' := []) (h' := h1) (k_10 L1) rfl rfl ?_
    refine mX_to 3 (k' := 12) (ls' := [some (.ref 8), some (.int a1)]) (st' := [.int 9999, .int ((gI h1 10 5) + a1)]) (h' := h1) rfl ?_
    refine mX_br (t := 15) (f := 13) (ls' := [some (.ref 8), some (.int a1)]) (st' := []) (h' := h1) rfl ?_ ?_
    · refine mX_to 1 (k' := 16) (ls' := [some (.ref 8), some (.int a1)]) (st' := [.ref 8]) (h' := h1) rfl ?_
      refine mX_ckv (v := .ref (gR h1 8 0)) (v' := .ref 9) (k' := 17) (ls' := [some (.ref 8), some (.int a1)]) (st' := []) (h' := h1) (k_8 L1) (congrArg Value.ref (r_8_0 L1)) rfl ?_
      refine mX_to 1 (k' := 18) (ls' := [some (.ref 8), some (.int a1)]) (st' := [.int a1, .ref 9]) (h' := h1) rfl ?_
      refine mX_ckct (m := mcl (mE mtab d 192 [.ref 9, .int a1] h1) 1 19 [some (.ref 8), some (.int a1)] []) (k_9 L1) rfl ?_
      refine mk_cIe (o := F_X0_waits d a1 h1) ?_
      intro x4 h3 eh3
      have L3 : lay h3 := lay_call d 192 [.ref 9, .int a1] h1 _ h3 rfl eh3 L1
      exact mX_reti rfl
    · refine mX_to 1 (k' := 14) (ls' := [some (.ref 8), some (.int a1)]) (st' := [.int (-1)]) (h' := h1) rfl ?_
      exact mX_reti rfl
theorem S_X11_anew {h : MH} (L : lay h) (d : Nat) : F_X11_anew (d + 1) h = lt_ (sI h 68 7 ((((((((gI h 68 7) : Int32).toInt64) * 601) + 467) - (((((gI h 68 7) : Int32).toInt64) * 601) + 467) / 30841 * 30841) : Int64).toInt32)) fun h2 => some (.int 0, h2) := by
  refine mE_eq (q := (yX11_anew, cX11_anew, 1, none, KX11_anew)) (C := KX11_anew) (ls := [some (.ref 67)]) rfl rfl rfl rfl ?_
  refine mX_to 1 (k' := 1) (ls' := [some (.ref 67)]) (st' := [.ref 67]) (h' := h) rfl ?_
  refine mX_ckv (v := .ref (gR h 67 0)) (v' := .ref 68) (k' := 2) (ls' := [some (.ref 67)]) (st' := []) (h' := h) (k_67 L) (congrArg Value.ref (r_67_0 L)) rfl ?_
  refine mX_to 2 (k' := 4) (ls' := [some (.ref 67)]) (st' := [.ref 67, .int 7, .ref 68]) (h' := h) rfl ?_
  refine mX_ckv (v := .ref (gR h 67 0)) (v' := .ref 68) (k' := 5) (ls' := [some (.ref 67)]) (st' := [.int 7, .ref 68]) (h' := h) (k_67 L) (congrArg Value.ref (r_67_0 L)) rfl ?_
  refine mX_to 1 (k' := 6) (ls' := [some (.ref 67)]) (st' := [.int 7, .ref 68, .int 7, .ref 68]) (h' := h) rfl ?_
  refine mX_ckv (v := .int (gI h 68 (ix (7 : Int32)))) (v' := .int (gI h 68 7)) (k' := 7) (ls' := [some (.ref 67)]) (st' := [.int 7, .ref 68]) (h' := h) ((ckA1 (k_68 L) (n_68 L)).mpr (ib_lit (n := 7) rfl (by decide) (by decide))) (congrArg (fun j => Value.int (gI h 68 j)) (ix_lit (n := 7) rfl (by decide))) rfl ?_
  refine mX_to 6 (k' := 13) (ls' := [some (.ref 67)]) (st' := [.long 30841, .long (((((gI h 68 7) : Int32).toInt64) * 601) + 467), .int 7, .ref 68]) (h' := h) rfl ?_
  refine mX_ckt (c := ¬ (30841 : Int64) = 0) (k' := 14) (ls' := [some (.ref 67)]) (st' := [.long ((((((gI h 68 7) : Int32).toInt64) * 601) + 467) - (((((gI h 68 7) : Int32).toInt64) * 601) + 467) / 30841 * 30841), .int 7, .ref 68]) (h' := h) (by decide) rfl ?_
  refine mX_to 1 (k' := 15) (ls' := [some (.ref 67)]) (st' := [.int ((((((((gI h 68 7) : Int32).toInt64) * 601) + 467) - (((((gI h 68 7) : Int32).toInt64) * 601) + 467) / 30841 * 30841) : Int64).toInt32), .int 7, .ref 68]) (h' := h) rfl ?_
  refine mX_ckt (k' := 16) (ls' := [some (.ref 67)]) (st' := []) (h' := (sI h 68 (ix (7 : Int32)) ((((((((gI h 68 7) : Int32).toInt64) * 601) + 467) - (((((gI h 68 7) : Int32).toInt64) * 601) + 467) / 30841 * 30841) : Int64).toInt32))) ((ckA0 (k_68 L) (n_68 L)).mpr (ib_lit (n := 7) rfl (by decide) (by decide))) rfl ?_
  refine lt_geq2 (X := fun h2 : MH => mX (mE mtab d) KX11_anew 16 [some (.ref 67)] [] h2) (a := (sI h 68 (ix (7 : Int32)) ((((((((gI h 68 7) : Int32).toInt64) * 601) + 467) - (((((gI h 68 7) : Int32).toInt64) * 601) + 467) / 30841 * 30841) : Int64).toInt32))) (a' := (sI h 68 7 ((((((((gI h 68 7) : Int32).toInt64) * 601) + 467) - (((((gI h 68 7) : Int32).toInt64) * 601) + 467) / 30841 * 30841) : Int64).toInt32))) (congrArg (fun j => sI h 68 j ((((((((gI h 68 7) : Int32).toInt64) * 601) + 467) - (((((gI h 68 7) : Int32).toInt64) * 601) + 467) / 30841 * 30841) : Int64).toInt32)) (ix_lit (n := 7) rfl (by decide))) fun h2 eh2 => ?_
  have L2 : lay h2 := eh2 ▸ layI L (by decide)
  exact mX_ret rfl
