--deps:19.lay 21.facts 22.00.names
/-! EQUATIONS over the fixed cells (written by wip/gen/sgen.py) -/
theorem S_X11_nextGoing_6 {h : MH} (L : lay h) (d : Nat) (l1 : Int32) (l2 : Int32) (l3 : Int32) (l4 : Int32) (l5 : Int32) (o6 : Option Value) : G_X11_nextGoing_6 d l1 l2 l3 l4 l5 o6 h = cI (F_X11_top d l2 h) (fun x2 h1 => (if l5 < x2 then cI (F_X11_gone d l1 l5 h1) (fun x4 h3 => (if x4 = (-1) then G_X11_nextGoing_38 d l1 l2 l3 l4 l5 x4 h3 else ck (ib x4 6561) ((if (gI h3 77 (ix x4)) = (-1) then G_X11_nextGoing_38 d l1 l2 l3 l4 l5 x4 h3 else ck (ib x4 6561) ((if (gI h3 77 (ix x4)) < l4 then ck (ib x4 6561) (lt_ (gI h3 77 (ix x4)) fun v5 => G_X11_nextGoing_38 d l1 l2 l5 v5 l5 x4 h3) else G_X11_nextGoing_38 d l1 l2 l3 l4 l5 x4 h3)))))) else some (.int l3, h1))) := by
  refine mX_to 2 (k' := 8) (ls' := [some (.ref 67), some (.int l1), some (.int l2), some (.int l3), some (.int l4), some (.int l5), o6]) (st' := [.int l2, .int l5]) (h' := h) rfl ?_
  refine mX_cIe (o := F_X11_top d l2 h) (k' := 9) (ls' := [some (.ref 67), some (.int l1), some (.int l2), some (.int l3), some (.int l4), some (.int l5), o6]) (st' := [.int l5]) rfl ?_
  intro x2 h1 eh1
  have L1 : lay h1 := lay_call d 248 [.int l2] h _ h1 rfl eh1 L
  refine mX_br (t := 10) (f := 40) (ls' := [some (.ref 67), some (.int l1), some (.int l2), some (.int l3), some (.int l4), some (.int l5), o6]) (st' := []) (h' := h1) rfl ?_ ?_
  · refine mX_to 3 (k' := 13) (ls' := [some (.ref 67), some (.int l1), some (.int l2), some (.int l3), some (.int l4), some (.int l5), o6]) (st' := [.int l5, .int l1, .ref 67]) (h' := h1) rfl ?_
    refine mX_ckct (m := mcl (mE mtab d 250 [.ref 67, .int l1, .int l5] h1) 1 14 [some (.ref 67), some (.int l1), some (.int l2), some (.int l3), some (.int l4), some (.int l5), o6] []) (k_67 L1) rfl ?_
    refine mk_cIe (o := F_X11_gone d l1 l5 h1) ?_
    intro x4 h3 eh3
    have L3 : lay h3 := lay_call d 250 [.ref 67, .int l1, .int l5] h1 _ h3 rfl eh3 L1
    refine mX_to 3 (k' := 17) (ls' := [some (.ref 67), some (.int l1), some (.int l2), some (.int l3), some (.int l4), some (.int l5), some (.int x4)]) (st' := [.int (-1), .int x4]) (h' := h3) rfl ?_
    refine mX_br (t := 38) (f := 18) (ls' := [some (.ref 67), some (.int l1), some (.int l2), some (.int l3), some (.int l4), some (.int l5), some (.int x4)]) (st' := []) (h' := h3) rfl ?_ ?_
    · rfl
    · refine mX_to 1 (k' := 19) (ls' := [some (.ref 67), some (.int l1), some (.int l2), some (.int l3), some (.int l4), some (.int l5), some (.int x4)]) (st' := [.ref 67]) (h' := h3) rfl ?_
      refine mX_ckv (v := .ref (gR h3 67 26)) (v' := .ref 77) (k' := 20) (ls' := [some (.ref 67), some (.int l1), some (.int l2), some (.int l3), some (.int l4), some (.int l5), some (.int x4)]) (st' := []) (h' := h3) (k_67 L3) (congrArg Value.ref (r_67_26 L3)) rfl ?_
      refine mX_to 1 (k' := 21) (ls' := [some (.ref 67), some (.int l1), some (.int l2), some (.int l3), some (.int l4), some (.int l5), some (.int x4)]) (st' := [.int x4, .ref 77]) (h' := h3) rfl ?_
      refine mX_ckw (v := .int (gI h3 77 (ix x4))) (v' := .int (gI h3 77 (ix x4))) (k' := 22) (ls' := [some (.ref 67), some (.int l1), some (.int l2), some (.int l3), some (.int l4), some (.int l5), some (.int x4)]) (st' := []) (h' := h3) (ckA1 (k_77 L3) (n_77 L3)) rfl rfl fun c8 => ?_
      refine mX_to 1 (k' := 23) (ls' := [some (.ref 67), some (.int l1), some (.int l2), some (.int l3), some (.int l4), some (.int l5), some (.int x4)]) (st' := [.int (-1), .int (gI h3 77 (ix x4))]) (h' := h3) rfl ?_
      refine mX_br (t := 38) (f := 24) (ls' := [some (.ref 67), some (.int l1), some (.int l2), some (.int l3), some (.int l4), some (.int l5), some (.int x4)]) (st' := []) (h' := h3) rfl ?_ ?_
      · rfl
      · refine mX_to 1 (k' := 25) (ls' := [some (.ref 67), some (.int l1), some (.int l2), some (.int l3), some (.int l4), some (.int l5), some (.int x4)]) (st' := [.ref 67]) (h' := h3) rfl ?_
        refine mX_ckv (v := .ref (gR h3 67 26)) (v' := .ref 77) (k' := 26) (ls' := [some (.ref 67), some (.int l1), some (.int l2), some (.int l3), some (.int l4), some (.int l5), some (.int x4)]) (st' := []) (h' := h3) (k_67 L3) (congrArg Value.ref (r_67_26 L3)) rfl ?_
        refine mX_to 1 (k' := 27) (ls' := [some (.ref 67), some (.int l1), some (.int l2), some (.int l3), some (.int l4), some (.int l5), some (.int x4)]) (st' := [.int x4, .ref 77]) (h' := h3) rfl ?_
        refine mX_ckw (v := .int (gI h3 77 (ix x4))) (v' := .int (gI h3 77 (ix x4))) (k' := 28) (ls' := [some (.ref 67), some (.int l1), some (.int l2), some (.int l3), some (.int l4), some (.int l5), some (.int x4)]) (st' := []) (h' := h3) (ckA1 (k_77 L3) (n_77 L3)) rfl rfl fun c7 => ?_
        refine mX_to 1 (k' := 29) (ls' := [some (.ref 67), some (.int l1), some (.int l2), some (.int l3), some (.int l4), some (.int l5), some (.int x4)]) (st' := [.int l4, .int (gI h3 77 (ix x4))]) (h' := h3) rfl ?_
        refine mX_br (t := 31) (f := 30) (ls' := [some (.ref 67), some (.int l1), some (.int l2), some (.int l3), some (.int l4), some (.int l5), some (.int x4)]) (st' := []) (h' := h3) rfl ?_ ?_
        · refine mX_to 1 (k' := 32) (ls' := [some (.ref 67), some (.int l1), some (.int l2), some (.int l3), some (.int l4), some (.int l5), some (.int x4)]) (st' := [.ref 67]) (h' := h3) rfl ?_
          refine mX_ckv (v := .ref (gR h3 67 26)) (v' := .ref 77) (k' := 33) (ls' := [some (.ref 67), some (.int l1), some (.int l2), some (.int l3), some (.int l4), some (.int l5), some (.int x4)]) (st' := []) (h' := h3) (k_67 L3) (congrArg Value.ref (r_67_26 L3)) rfl ?_
          refine mX_to 1 (k' := 34) (ls' := [some (.ref 67), some (.int l1), some (.int l2), some (.int l3), some (.int l4), some (.int l5), some (.int x4)]) (st' := [.int x4, .ref 77]) (h' := h3) rfl ?_
          refine mX_ckw (v := .int (gI h3 77 (ix x4))) (v' := .int (gI h3 77 (ix x4))) (k' := 35) (ls' := [some (.ref 67), some (.int l1), some (.int l2), some (.int l3), some (.int l4), some (.int l5), some (.int x4)]) (st' := []) (h' := h3) (ckA1 (k_77 L3) (n_77 L3)) rfl rfl fun c6 => ?_
          refine lt_gen (X := fun v5 : Int32 => mX (mE mtab d) KX11_nextGoing 35 [some (.ref 67), some (.int l1), some (.int l2), some (.int l3), some (.int l4), some (.int l5), some (.int x4)] [.int v5] h3) fun v5 => ?_
          refine mX_to 3 (k' := 38) (ls' := [some (.ref 67), some (.int l1), some (.int l2), some (.int l5), some (.int v5), some (.int l5), some (.int x4)]) (st' := []) (h' := h3) rfl ?_
          rfl
        · refine mX_to 1 (k' := 38) (ls' := [some (.ref 67), some (.int l1), some (.int l2), some (.int l3), some (.int l4), some (.int l5), some (.int x4)]) (st' := []) (h' := h3) rfl ?_
          rfl
  · refine mX_to 1 (k' := 41) (ls' := [some (.ref 67), some (.int l1), some (.int l2), some (.int l3), some (.int l4), some (.int l5), o6]) (st' := [.int l3]) (h' := h1) rfl ?_
    exact mX_reti rfl
theorem S_X11_nextGoing_38 {h : MH} (L : lay h) (d : Nat) (l1 : Int32) (l2 : Int32) (l3 : Int32) (l4 : Int32) (l5 : Int32) (l6 : Int32) : G_X11_nextGoing_38 d l1 l2 l3 l4 l5 l6 h = G_X11_nextGoing_6 d l1 l2 l3 l4 (l5 + 1) (some (.int l6)) h := by
  refine mX_to 2 (k' := 6) (ls' := [some (.ref 67), some (.int l1), some (.int l2), some (.int l3), some (.int l4), some (.int (l5 + 1)), some (.int l6)]) (st' := []) (h' := h) rfl ?_
  rfl
theorem S_X11_nextGoing {h : MH} (L : lay h) (d : Nat) (a1 : Int32) (a2 : Int32) : F_X11_nextGoing (d + 1) a1 a2 h = G_X11_nextGoing_6 d a1 a2 (-1) 1000000 0 none h := by
  refine mE_eq (q := (yX11_nextGoing, cX11_nextGoing, 7, (some .int), KX11_nextGoing)) (C := KX11_nextGoing) (ls := [some (.ref 67), some (.int a1), some (.int a2), none, none, none, none]) rfl rfl rfl rfl ?_
  refine mX_to 6 (k' := 6) (ls' := [some (.ref 67), some (.int a1), some (.int a2), some (.int (-1)), some (.int 1000000), some (.int 0), none]) (st' := []) (h' := h) rfl ?_
  rfl
theorem S_X11_errands_10 {h : MH} (L : lay h) (d : Nat) (l1 : Int32) (l2 : Int32) (l3 : Int32) (l4 : Int32) (l5 : Int32) : G_X11_errands_10 d l1 l2 l3 l4 l5 h = cI (F_X11_areThere d l3 h) (fun x5 h4 => (if x5 = 0 then (if l2 = (-1) then G_X11_errands_20 d l1 l2 l3 l4 l5 h4 else (if l4 ≤ l2 then G_X11_errands_20 d l1 l2 l3 l4 l5 h4 else G_X11_errands_37 d l1 l2 l3 l4 l5 h4)) else G_X11_errands_37 d l1 l2 l3 l4 l5 h4)) := by
  refine mX_to 2 (k' := 12) (ls' := [some (.ref 67), some (.int l1), some (.int l2), some (.int l3), some (.int l4), some (.int l5)]) (st' := [.int l3, .ref 67]) (h' := h) rfl ?_
  refine mX_ckct (m := mcl (mE mtab d 247 [.ref 67, .int l3] h) 1 13 [some (.ref 67), some (.int l1), some (.int l2), some (.int l3), some (.int l4), some (.int l5)] []) (k_67 L) rfl ?_
  refine mk_cIe (o := F_X11_areThere d l3 h) ?_
  intro x5 h4 eh4
  have L4 : lay h4 := lay_call d 247 [.ref 67, .int l3] h _ h4 rfl eh4 L
  refine mX_br (t := 14) (f := 37) (ls' := [some (.ref 67), some (.int l1), some (.int l2), some (.int l3), some (.int l4), some (.int l5)]) (st' := []) (h' := h4) rfl ?_ ?_
  · refine mX_to 2 (k' := 16) (ls' := [some (.ref 67), some (.int l1), some (.int l2), some (.int l3), some (.int l4), some (.int l5)]) (st' := [.int (-1), .int l2]) (h' := h4) rfl ?_
    refine mX_br (t := 20) (f := 17) (ls' := [some (.ref 67), some (.int l1), some (.int l2), some (.int l3), some (.int l4), some (.int l5)]) (st' := []) (h' := h4) rfl ?_ ?_
    · rfl
    · refine mX_to 2 (k' := 19) (ls' := [some (.ref 67), some (.int l1), some (.int l2), some (.int l3), some (.int l4), some (.int l5)]) (st' := [.int l2, .int l4]) (h' := h4) rfl ?_
      refine mX_br (t := 20) (f := 37) (ls' := [some (.ref 67), some (.int l1), some (.int l2), some (.int l3), some (.int l4), some (.int l5)]) (st' := []) (h' := h4) rfl ?_ ?_
      · rfl
      · rfl
  · rfl
theorem S_X11_errands_20 {h : MH} (L : lay h) (d : Nat) (l1 : Int32) (l2 : Int32) (l3 : Int32) (l4 : Int32) (l5 : Int32) : G_X11_errands_20 d l1 l2 l3 l4 l5 h = cI (F_X11_nextGoing d l3 l1 h) (fun x7 h6 => (if x7 = (-1) then some (.int (-2), h6) else cI (F_X11_gone d l3 x7 h6) (fun x9 h8 => G_X11_errands_10 d l1 l2 x9 (l4 + 1) x7 h8))) := by
  refine mX_to 3 (k' := 23) (ls' := [some (.ref 67), some (.int l1), some (.int l2), some (.int l3), some (.int l4), some (.int l5)]) (st' := [.int l1, .int l3, .ref 67]) (h' := h) rfl ?_
  refine mX_ckct (m := mcl (mE mtab d 253 [.ref 67, .int l3, .int l1] h) 1 24 [some (.ref 67), some (.int l1), some (.int l2), some (.int l3), some (.int l4), some (.int l5)] []) (k_67 L) rfl ?_
  refine mk_cIe (o := F_X11_nextGoing d l3 l1 h) ?_
  intro x7 h6 eh6
  have L6 : lay h6 := lay_call d 253 [.ref 67, .int l3, .int l1] h _ h6 rfl eh6 L
  refine mX_to 3 (k' := 27) (ls' := [some (.ref 67), some (.int l1), some (.int l2), some (.int l3), some (.int l4), some (.int x7)]) (st' := [.int (-1), .int x7]) (h' := h6) rfl ?_
  refine mX_br (t := 28) (f := 30) (ls' := [some (.ref 67), some (.int l1), some (.int l2), some (.int l3), some (.int l4), some (.int x7)]) (st' := []) (h' := h6) rfl ?_ ?_
  · refine mX_to 1 (k' := 29) (ls' := [some (.ref 67), some (.int l1), some (.int l2), some (.int l3), some (.int l4), some (.int x7)]) (st' := [.int (-2)]) (h' := h6) rfl ?_
    exact mX_reti rfl
  · refine mX_to 3 (k' := 33) (ls' := [some (.ref 67), some (.int l1), some (.int l2), some (.int l3), some (.int l4), some (.int x7)]) (st' := [.int x7, .int l3, .ref 67]) (h' := h6) rfl ?_
    refine mX_ckct (m := mcl (mE mtab d 250 [.ref 67, .int l3, .int x7] h6) 1 34 [some (.ref 67), some (.int l1), some (.int l2), some (.int l3), some (.int l4), some (.int x7)] []) (k_67 L6) rfl ?_
    refine mk_cIe (o := F_X11_gone d l3 x7 h6) ?_
    intro x9 h8 eh8
    have L8 : lay h8 := lay_call d 250 [.ref 67, .int l3, .int x7] h6 _ h8 rfl eh8 L6
    refine mX_to 3 (k' := 10) (ls' := [some (.ref 67), some (.int l1), some (.int l2), some (.int x9), some (.int (l4 + 1)), some (.int x7)]) (st' := []) (h' := h8) rfl ?_
    rfl
theorem S_X11_errands_37 {h : MH} (L : lay h) (d : Nat) (l1 : Int32) (l2 : Int32) (l3 : Int32) (l4 : Int32) (l5 : Int32) : G_X11_errands_37 d l1 l2 l3 l4 l5 h = (if l2 = (-1) then some (.int l4, h) else (if l2 < 0 then some (.int (-2), h) else (if l4 = (l2 + 1) then some (.int l5, h) else some (.int (-2), h)))) := by
  refine mX_to 2 (k' := 39) (ls' := [some (.ref 67), some (.int l1), some (.int l2), some (.int l3), some (.int l4), some (.int l5)]) (st' := [.int (-1), .int l2]) (h' := h) rfl ?_
  refine mX_br (t := 40) (f := 42) (ls' := [some (.ref 67), some (.int l1), some (.int l2), some (.int l3), some (.int l4), some (.int l5)]) (st' := []) (h' := h) rfl ?_ ?_
  · refine mX_to 2 (k' := 52) (ls' := [some (.ref 67), some (.int l1), some (.int l2), some (.int l3), some (.int l4), some (.int l5)]) (st' := [.int l4]) (h' := h) rfl ?_
    exact mX_reti rfl
  · refine mX_to 1 (k' := 43) (ls' := [some (.ref 67), some (.int l1), some (.int l2), some (.int l3), some (.int l4), some (.int l5)]) (st' := [.int l2]) (h' := h) rfl ?_
    refine mX_br (t := 51) (f := 44) (ls' := [some (.ref 67), some (.int l1), some (.int l2), some (.int l3), some (.int l4), some (.int l5)]) (st' := []) (h' := h) rfl ?_ ?_
    · refine mX_to 1 (k' := 52) (ls' := [some (.ref 67), some (.int l1), some (.int l2), some (.int l3), some (.int l4), some (.int l5)]) (st' := [.int (-2)]) (h' := h) rfl ?_
      exact mX_reti rfl
    · refine mX_to 4 (k' := 48) (ls' := [some (.ref 67), some (.int l1), some (.int l2), some (.int l3), some (.int l4), some (.int l5)]) (st' := [.int (l2 + 1), .int l4]) (h' := h) rfl ?_
      refine mX_br (t := 49) (f := 51) (ls' := [some (.ref 67), some (.int l1), some (.int l2), some (.int l3), some (.int l4), some (.int l5)]) (st' := []) (h' := h) rfl ?_ ?_
      · refine mX_to 2 (k' := 52) (ls' := [some (.ref 67), some (.int l1), some (.int l2), some (.int l3), some (.int l4), some (.int l5)]) (st' := [.int l5]) (h' := h) rfl ?_
        exact mX_reti rfl
      · refine mX_to 1 (k' := 52) (ls' := [some (.ref 67), some (.int l1), some (.int l2), some (.int l3), some (.int l4), some (.int l5)]) (st' := [.int (-2)]) (h' := h) rfl ?_
        exact mX_reti rfl
theorem S_X11_errands {h : MH} (L : lay h) (d : Nat) (a1 : Int32) (a2 : Int32) : F_X11_errands (d + 1) a1 a2 h = cV (F_X11_layFars d a1 h) (fun h1 => cI (F_X11_standNow d h1) (fun x3 h2 => G_X11_errands_10 d a1 a2 x3 0 (-1) h2)) := by
  refine mE_eq (q := (yX11_errands, cX11_errands, 6, (some .int), KX11_errands)) (C := KX11_errands) (ls := [some (.ref 67), some (.int a1), some (.int a2), none, none, none]) rfl rfl rfl rfl ?_
  refine mX_to 2 (k' := 2) (ls' := [some (.ref 67), some (.int a1), some (.int a2), none, none, none]) (st' := [.int a1, .ref 67]) (h' := h) rfl ?_
  refine mX_ckct (m := mcl (mE mtab d 252 [.ref 67, .int a1] h) 0 3 [some (.ref 67), some (.int a1), some (.int a2), none, none, none] []) (k_67 L) rfl ?_
  refine mk_cVe (o := F_X11_layFars d a1 h) ?_
  intro wh1 h1 eh1
  have L1 : lay h1 := lay_call d 252 [.ref 67, .int a1] h _ h1 rfl eh1 L
  refine mX_to 1 (k' := 4) (ls' := [some (.ref 67), some (.int a1), some (.int a2), none, none, none]) (st' := [.ref 67]) (h' := h1) rfl ?_
  refine mX_ckct (m := mcl (mE mtab d 243 [.ref 67] h1) 1 5 [some (.ref 67), some (.int a1), some (.int a2), none, none, none] []) (k_67 L1) rfl ?_
  refine mk_cIe (o := F_X11_standNow d h1) ?_
  intro x3 h2 eh2
  have L2 : lay h2 := lay_call d 243 [.ref 67] h1 _ h2 rfl eh2 L1
  refine mX_to 5 (k' := 10) (ls' := [some (.ref 67), some (.int a1), some (.int a2), some (.int x3), some (.int 0), some (.int (-1))]) (st' := []) (h' := h2) rfl ?_
  rfl
theorem S_X10_where {h : MH} (L : lay h) (d : Nat) (a1 : Int32) : F_X10_where (d + 1) a1 h = cV (F_X9_copyFrom d 43 10 h) (fun h1 => cV (F_X5_explore d a1 0 h1) (fun h2 => some (.int (gI h2 60 2), h2))) := by
  refine mE_eq (q := (yX10_where, cX10_where, 2, (some .int), KX10_where)) (C := KX10_where) (ls := [some (.ref 8), some (.int a1)]) rfl rfl rfl rfl ?_
  refine mX_to 1 (k' := 1) (ls' := [some (.ref 8), some (.int a1)]) (st' := [.ref 8]) (h' := h) rfl ?_
  refine mX_ckv (v := .ref (gR h 8 2)) (v' := .ref 43) (k' := 2) (ls' := [some (.ref 8), some (.int a1)]) (st' := []) (h' := h) (k_8 L) (congrArg Value.ref (r_8_2 L)) rfl ?_
  refine mX_to 1 (k' := 3) (ls' := [some (.ref 8), some (.int a1)]) (st' := [.ref 8, .ref 43]) (h' := h) rfl ?_
  refine mX_ckv (v := .ref (gR h 8 0)) (v' := .ref 9) (k' := 4) (ls' := [some (.ref 8), some (.int a1)]) (st' := [.ref 43]) (h' := h) (k_8 L) (congrArg Value.ref (r_8_0 L)) rfl ?_
  refine mX_ckv (v := .ref (gR h 9 0)) (v' := .ref 10) (k' := 5) (ls' := [some (.ref 8), some (.int a1)]) (st' := [.ref 43]) (h' := h) (k_9 L) (congrArg Value.ref (r_9_0 L)) rfl ?_
  refine mX_ckct (m := mcl (mE mtab d 225 [.ref 43, .ref 10] h) 0 6 [some (.ref 8), some (.int a1)] []) (k_43 L) rfl ?_
  refine mk_cVe (o := F_X9_copyFrom d 43 10 h) ?_
  intro wh1 h1 eh1
  have L1 : lay h1 := lay_call d 225 [.ref 43, .ref 10] h _ h1 rfl eh1 L
  refine mX_to 1 (k' := 7) (ls' := [some (.ref 8), some (.int a1)]) (st' := [.ref 8]) (h' := h1) rfl ?_
  refine mX_ckv (v := .ref (gR h1 8 5)) (v' := .ref 60) (k' := 8) (ls' := [some (.ref 8), some (.int a1)]) (st' := []) (h' := h1) (k_8 L1) (congrArg Value.ref (r_8_5 L1)) rfl ?_
  refine mX_to 1 (k' := 9) (ls' := [some (.ref 8), some (.int a1)]) (st' := [.ref 8, .ref 60]) (h' := h1) rfl ?_
  refine mX_ckv (v := .ref (gR h1 8 2)) (v' := .ref 43) (k' := 10) (ls' := [some (.ref 8), some (.int a1)]) (st' := [.ref 60]) (h' := h1) (k_8 L1) (congrArg Value.ref (r_8_2 L1)) rfl ?_
  refine mX_to 2 (k' := 12) (ls' := [some (.ref 8), some (.int a1)]) (st' := [.int 0, .int a1, .ref 43, .ref 60]) (h' := h1) rfl ?_
  refine mX_ckct (m := mcl (mE mtab d 239 [.ref 60, .ref 43, .int a1, .int 0] h1) 0 13 [some (.ref 8), some (.int a1)] []) (k_60 L1) rfl ?_
  refine mk_cVe (o := F_X5_explore d a1 0 h1) ?_
  intro wh2 h2 eh2
  have L2 : lay h2 := lay_call d 239 [.ref 60, .ref 43, .int a1, .int 0] h1 _ h2 rfl eh2 L1
  refine mX_to 1 (k' := 14) (ls' := [some (.ref 8), some (.int a1)]) (st' := [.ref 8]) (h' := h2) rfl ?_
  refine mX_ckv (v := .ref (gR h2 8 5)) (v' := .ref 60) (k' := 15) (ls' := [some (.ref 8), some (.int a1)]) (st' := []) (h' := h2) (k_8 L2) (congrArg Value.ref (r_8_5 L2)) rfl ?_
  refine mX_ckv (v := .int (gI h2 60 2)) (v' := .int (gI h2 60 2)) (k' := 16) (ls' := [some (.ref 8), some (.int a1)]) (st' := []) (h' := h2) (k_60 L2) rfl rfl ?_
  exact mX_reti rfl
theorem S_X11_where_4 {h : MH} (L : lay h) (d : Nat) (l1 : Int32) (l2 : Int32) : G_X11_where_4 d l1 l2 h = cI (F_X11_nines d (gI h 68 0) h) (fun x3 h2 => (if l2 < x3 then ck (ib l2 6561) (lt_ (sI h2 77 (ix l2) (-1)) fun h5 => G_X11_where_4 d l1 (l2 + 1) h5) else cI (F_X11_standNow d h2) (fun x7 h6 => lt_ (sI h6 78 0 x7) fun h9 => cI (F_X11_standNow d h9) (fun x11 h10 => ck (ib x11 6561) (lt_ (sI h10 77 (ix x11) 0) fun h13 => cI (F_X11_top d l1 h13) (fun x15 h14 => cI (F_X11_spread d 1 x15 h14) (fun x17 h16 => some (.int x17, h16)))))))) := by
  refine mX_to 2 (k' := 6) (ls' := [some (.ref 67), some (.int l1), some (.int l2)]) (st' := [.ref 67, .int l2]) (h' := h) rfl ?_
  refine mX_ckv (v := .ref (gR h 67 0)) (v' := .ref 68) (k' := 7) (ls' := [some (.ref 67), some (.int l1), some (.int l2)]) (st' := [.int l2]) (h' := h) (k_67 L) (congrArg Value.ref (r_67_0 L)) rfl ?_
  refine mX_to 1 (k' := 8) (ls' := [some (.ref 67), some (.int l1), some (.int l2)]) (st' := [.int 0, .ref 68, .int l2]) (h' := h) rfl ?_
  refine mX_ckv (v := .int (gI h 68 (ix (0 : Int32)))) (v' := .int (gI h 68 0)) (k' := 9) (ls' := [some (.ref 67), some (.int l1), some (.int l2)]) (st' := [.int l2]) (h' := h) ((ckA1 (k_68 L) (n_68 L)).mpr (ib_lit (n := 0) rfl (by decide) (by decide))) (congrArg (fun j => Value.int (gI h 68 j)) (ix_lit (n := 0) rfl (by decide))) rfl ?_
  refine mX_cIe (o := F_X11_nines d (gI h 68 0) h) (k' := 10) (ls' := [some (.ref 67), some (.int l1), some (.int l2)]) (st' := [.int l2]) rfl ?_
  intro x3 h2 eh2
  have L2 : lay h2 := lay_call d 244 [.int (gI h 68 0)] h _ h2 rfl eh2 L
  refine mX_br (t := 11) (f := 18) (ls' := [some (.ref 67), some (.int l1), some (.int l2)]) (st' := []) (h' := h2) rfl ?_ ?_
  · refine mX_to 1 (k' := 12) (ls' := [some (.ref 67), some (.int l1), some (.int l2)]) (st' := [.ref 67]) (h' := h2) rfl ?_
    refine mX_ckv (v := .ref (gR h2 67 26)) (v' := .ref 77) (k' := 13) (ls' := [some (.ref 67), some (.int l1), some (.int l2)]) (st' := []) (h' := h2) (k_67 L2) (congrArg Value.ref (r_67_26 L2)) rfl ?_
    refine mX_to 2 (k' := 15) (ls' := [some (.ref 67), some (.int l1), some (.int l2)]) (st' := [.int (-1), .int l2, .ref 77]) (h' := h2) rfl ?_
    refine mX_cki (k' := 16) (ls' := [some (.ref 67), some (.int l1), some (.int l2)]) (st' := []) (h' := (sI h2 77 (ix l2) (-1))) (ckA0 (k_77 L2) (n_77 L2)) rfl fun c4 => ?_
    refine lt_geq2 (X := fun h5 : MH => mX (mE mtab d) KX11_where 16 [some (.ref 67), some (.int l1), some (.int l2)] [] h5) (a := (sI h2 77 (ix l2) (-1))) (a' := (sI h2 77 (ix l2) (-1))) rfl fun h5 eh5 => ?_
    have L5 : lay h5 := eh5 ▸ layI L2 (by decide)
    refine mX_to 2 (k' := 4) (ls' := [some (.ref 67), some (.int l1), some (.int (l2 + 1))]) (st' := []) (h' := h5) rfl ?_
    rfl
  · refine mX_to 1 (k' := 19) (ls' := [some (.ref 67), some (.int l1), some (.int l2)]) (st' := [.ref 67]) (h' := h2) rfl ?_
    refine mX_ckv (v := .ref (gR h2 67 27)) (v' := .ref 78) (k' := 20) (ls' := [some (.ref 67), some (.int l1), some (.int l2)]) (st' := []) (h' := h2) (k_67 L2) (congrArg Value.ref (r_67_27 L2)) rfl ?_
    refine mX_to 2 (k' := 22) (ls' := [some (.ref 67), some (.int l1), some (.int l2)]) (st' := [.ref 67, .int 0, .ref 78]) (h' := h2) rfl ?_
    refine mX_ckct (m := mcl (mE mtab d 243 [.ref 67] h2) 1 23 [some (.ref 67), some (.int l1), some (.int l2)] [.int 0, .ref 78]) (k_67 L2) rfl ?_
    refine mk_cIe (o := F_X11_standNow d h2) ?_
    intro x7 h6 eh6
    have L6 : lay h6 := lay_call d 243 [.ref 67] h2 _ h6 rfl eh6 L2
    refine mX_ckt (k' := 24) (ls' := [some (.ref 67), some (.int l1), some (.int l2)]) (st' := []) (h' := (sI h6 78 (ix (0 : Int32)) x7)) ((ckA0 (k_78 L6) (n_78 L6)).mpr (ib_lit (n := 0) rfl (by decide) (by decide))) rfl ?_
    refine lt_geq2 (X := fun h9 : MH => mX (mE mtab d) KX11_where 24 [some (.ref 67), some (.int l1), some (.int l2)] [] h9) (a := (sI h6 78 (ix (0 : Int32)) x7)) (a' := (sI h6 78 0 x7)) (congrArg (fun j => sI h6 78 j x7) (ix_lit (n := 0) rfl (by decide))) fun h9 eh9 => ?_
    have L9 : lay h9 := eh9 ▸ layI L6 (by decide)
    refine mX_to 1 (k' := 25) (ls' := [some (.ref 67), some (.int l1), some (.int l2)]) (st' := [.ref 67]) (h' := h9) rfl ?_
    refine mX_ckv (v := .ref (gR h9 67 26)) (v' := .ref 77) (k' := 26) (ls' := [some (.ref 67), some (.int l1), some (.int l2)]) (st' := []) (h' := h9) (k_67 L9) (congrArg Value.ref (r_67_26 L9)) rfl ?_
    refine mX_to 1 (k' := 27) (ls' := [some (.ref 67), some (.int l1), some (.int l2)]) (st' := [.ref 67, .ref 77]) (h' := h9) rfl ?_
    refine mX_ckct (m := mcl (mE mtab d 243 [.ref 67] h9) 1 28 [some (.ref 67), some (.int l1), some (.int l2)] [.ref 77]) (k_67 L9) rfl ?_
    refine mk_cIe (o := F_X11_standNow d h9) ?_
    intro x11 h10 eh10
    have L10 : lay h10 := lay_call d 243 [.ref 67] h9 _ h10 rfl eh10 L9
    refine mX_to 1 (k' := 29) (ls' := [some (.ref 67), some (.int l1), some (.int l2)]) (st' := [.int 0, .int x11, .ref 77]) (h' := h10) rfl ?_
    refine mX_cki (k' := 30) (ls' := [some (.ref 67), some (.int l1), some (.int l2)]) (st' := []) (h' := (sI h10 77 (ix x11) 0)) (ckA0 (k_77 L10) (n_77 L10)) rfl fun c12 => ?_
    refine lt_geq2 (X := fun h13 : MH => mX (mE mtab d) KX11_where 30 [some (.ref 67), some (.int l1), some (.int l2)] [] h13) (a := (sI h10 77 (ix x11) 0)) (a' := (sI h10 77 (ix x11) 0)) rfl fun h13 eh13 => ?_
    have L13 : lay h13 := eh13 ▸ layI L10 (by decide)
    refine mX_to 3 (k' := 33) (ls' := [some (.ref 67), some (.int l1), some (.int l2)]) (st' := [.int l1, .int 1, .ref 67]) (h' := h13) rfl ?_
    refine mX_cIe (o := F_X11_top d l1 h13) (k' := 34) (ls' := [some (.ref 67), some (.int l1), some (.int l2)]) (st' := [.int 1, .ref 67]) rfl ?_
    intro x15 h14 eh14
    have L14 : lay h14 := lay_call d 248 [.int l1] h13 _ h14 rfl eh14 L13
    refine mX_ckct (m := mcl (mE mtab d 251 [.ref 67, .int 1, .int x15] h14) 1 35 [some (.ref 67), some (.int l1), some (.int l2)] []) (k_67 L14) rfl ?_
    refine mk_cIe (o := F_X11_spread d 1 x15 h14) ?_
    intro x17 h16 eh16
    have L16 : lay h16 := lay_call d 251 [.ref 67, .int 1, .int x15] h14 _ h16 rfl eh16 L14
    exact mX_reti rfl
theorem S_X11_where {h : MH} (L : lay h) (d : Nat) (a1 : Int32) : F_X11_where (d + 1) a1 h = cV (F_X11_layGood d h) (fun h1 => G_X11_where_4 d a1 0 h1) := by
  refine mE_eq (q := (yX11_where, cX11_where, 3, (some .int), KX11_where)) (C := KX11_where) (ls := [some (.ref 67), some (.int a1), none]) rfl rfl rfl rfl ?_
  refine mX_to 1 (k' := 1) (ls' := [some (.ref 67), some (.int a1), none]) (st' := [.ref 67]) (h' := h) rfl ?_
  refine mX_ckct (m := mcl (mE mtab d 246 [.ref 67] h) 0 2 [some (.ref 67), some (.int a1), none] []) (k_67 L) rfl ?_
  refine mk_cVe (o := F_X11_layGood d h) ?_
  intro wh1 h1 eh1
  have L1 : lay h1 := lay_call d 246 [.ref 67] h _ h1 rfl eh1 L
  refine mX_to 2 (k' := 4) (ls' := [some (.ref 67), some (.int a1), some (.int 0)]) (st' := []) (h' := h1) rfl ?_
  rfl
theorem S_X10_holds {h : MH} (L : lay h) (d : Nat) (a0 : Int32) (a1 : Int32) : F_X10_holds (d + 1) a0 a1 h = (if ((a0 >>> (a1 &&& 31)) &&& 1) = 1 then some (.int 1, h) else some (.int 0, h)) := by
  refine mE_eq (q := (yX10_holds, cX10_holds, 2, (some .boolean), KX10_holds)) (C := KX10_holds) (ls := [some (.int a0), some (.int a1)]) rfl rfl rfl rfl ?_
  refine mX_to 6 (k' := 6) (ls' := [some (.int a0), some (.int a1)]) (st' := [.int 1, .int ((a0 >>> (a1 &&& 31)) &&& 1)]) (h' := h) rfl ?_
  refine mX_br (t := 7) (f := 9) (ls' := [some (.int a0), some (.int a1)]) (st' := []) (h' := h) rfl ?_ ?_
  · refine mX_to 2 (k' := 10) (ls' := [some (.int a0), some (.int a1)]) (st' := [.int 1]) (h' := h) rfl ?_
    exact mX_retb (by decide) rfl
  · refine mX_to 1 (k' := 10) (ls' := [some (.int a0), some (.int a1)]) (st' := [.int 0]) (h' := h) rfl ?_
    exact mX_retb (by decide) rfl
theorem S_X2_wageOf_4 {h : MH} (L : lay h) (d : Nat) (l1 : Int32) (l2 : Int32) (l3 : Int32) : G_X2_wageOf_4 d l1 l2 l3 h = (if l3 < (gI h 19 3) then cI (F_X10_holds d l1 l3 h) (fun x2 h1 => (if x2 = 0 then G_X2_wageOf_19 d l1 l2 l3 h1 else ck (ib l3 4) (lt_ (l2 + (gI h1 21 (ix l3))) fun v3 => G_X2_wageOf_19 d l1 v3 l3 h1))) else some (.int l2, h)) := by
  refine mX_to 2 (k' := 6) (ls' := [some (.ref 19), some (.int l1), some (.int l2), some (.int l3)]) (st' := [.ref 19, .int l3]) (h' := h) rfl ?_
  refine mX_ckv (v := .int (gI h 19 3)) (v' := .int (gI h 19 3)) (k' := 7) (ls' := [some (.ref 19), some (.int l1), some (.int l2), some (.int l3)]) (st' := [.int l3]) (h' := h) (k_19 L) rfl rfl ?_
  refine mX_br (t := 8) (f := 21) (ls' := [some (.ref 19), some (.int l1), some (.int l2), some (.int l3)]) (st' := []) (h' := h) rfl ?_ ?_
  · refine mX_to 2 (k' := 10) (ls' := [some (.ref 19), some (.int l1), some (.int l2), some (.int l3)]) (st' := [.int l3, .int l1]) (h' := h) rfl ?_
    refine mX_cIe (o := F_X10_holds d l1 l3 h) (k' := 11) (ls' := [some (.ref 19), some (.int l1), some (.int l2), some (.int l3)]) (st' := []) rfl ?_
    intro x2 h1 eh1
    have L1 : lay h1 := lay_call d 257 [.int l1, .int l3] h _ h1 rfl eh1 L
    refine mX_br (t := 19) (f := 12) (ls' := [some (.ref 19), some (.int l1), some (.int l2), some (.int l3)]) (st' := []) (h' := h1) rfl ?_ ?_
    · rfl
    · refine mX_to 2 (k' := 14) (ls' := [some (.ref 19), some (.int l1), some (.int l2), some (.int l3)]) (st' := [.ref 19, .int l2]) (h' := h1) rfl ?_
      refine mX_ckv (v := .ref (gR h1 19 1)) (v' := .ref 21) (k' := 15) (ls' := [some (.ref 19), some (.int l1), some (.int l2), some (.int l3)]) (st' := [.int l2]) (h' := h1) (k_19 L1) (congrArg Value.ref (r_19_1 L1)) rfl ?_
      refine mX_to 1 (k' := 16) (ls' := [some (.ref 19), some (.int l1), some (.int l2), some (.int l3)]) (st' := [.int l3, .ref 21, .int l2]) (h' := h1) rfl ?_
      refine mX_ckw (v := .int (gI h1 21 (ix l3))) (v' := .int (gI h1 21 (ix l3))) (k' := 17) (ls' := [some (.ref 19), some (.int l1), some (.int l2), some (.int l3)]) (st' := [.int l2]) (h' := h1) (ckA1 (k_21 L1) (n_21 L1)) rfl rfl fun c4 => ?_
      refine mX_to 1 (k' := 18) (ls' := [some (.ref 19), some (.int l1), some (.int l2), some (.int l3)]) (st' := [.int (l2 + (gI h1 21 (ix l3)))]) (h' := h1) rfl ?_
      refine lt_gen (X := fun v3 : Int32 => mX (mE mtab d) KX2_wageOf 18 [some (.ref 19), some (.int l1), some (.int l2), some (.int l3)] [.int v3] h1) fun v3 => ?_
      refine mX_to 1 (k' := 19) (ls' := [some (.ref 19), some (.int l1), some (.int v3), some (.int l3)]) (st' := []) (h' := h1) rfl ?_
      rfl
  · refine mX_to 1 (k' := 22) (ls' := [some (.ref 19), some (.int l1), some (.int l2), some (.int l3)]) (st' := [.int l2]) (h' := h) rfl ?_
    exact mX_reti rfl
theorem S_X2_wageOf_19 {h : MH} (L : lay h) (d : Nat) (l1 : Int32) (l2 : Int32) (l3 : Int32) : G_X2_wageOf_19 d l1 l2 l3 h = G_X2_wageOf_4 d l1 l2 (l3 + 1) h := by
  refine mX_to 2 (k' := 4) (ls' := [some (.ref 19), some (.int l1), some (.int l2), some (.int (l3 + 1))]) (st' := []) (h' := h) rfl ?_
  rfl
theorem S_X2_wageOf {h : MH} (L : lay h) (d : Nat) (a1 : Int32) : F_X2_wageOf (d + 1) a1 h = G_X2_wageOf_4 d a1 0 0 h := by
  refine mE_eq (q := (yX2_wageOf, cX2_wageOf, 4, (some .int), KX2_wageOf)) (C := KX2_wageOf) (ls := [some (.ref 19), some (.int a1), none, none]) rfl rfl rfl rfl ?_
  refine mX_to 4 (k' := 4) (ls' := [some (.ref 19), some (.int a1), some (.int 0), some (.int 0)]) (st' := []) (h' := h) rfl ?_
  rfl
theorem S_X2_isCheaper {h : MH} (L : lay h) (d : Nat) (a1 : Int32) (a2 : Int32) : F_X2_isCheaper (d + 1) a1 a2 h = cI (F_X2_wageOf d a1 h) (fun x2 h1 => cI (F_X2_wageOf d a2 h1) (fun x4 h3 => (if x2 < x4 then some (.int 1, h3) else (if x2 = x4 then cI (mE mtab d 259 [.int a1] h3) (fun x6 h5 => cI (mE mtab d 259 [.int a2] h5) (fun x8 h7 => (if x6 < x8 then some (.int 1, h7) else some (.int 0, h7)))) else some (.int 0, h3))))) := by
  refine mE_eq (q := (yX2_isCheaper, cX2_isCheaper, 5, (some .boolean), KX2_isCheaper)) (C := KX2_isCheaper) (ls := [some (.ref 19), some (.int a1), some (.int a2), none, none]) rfl rfl rfl rfl ?_
  refine mX_to 2 (k' := 2) (ls' := [some (.ref 19), some (.int a1), some (.int a2), none, none]) (st' := [.int a1, .ref 19]) (h' := h) rfl ?_
  refine mX_ckct (m := mcl (mE mtab d 258 [.ref 19, .int a1] h) 1 3 [some (.ref 19), some (.int a1), some (.int a2), none, none] []) (k_19 L) rfl ?_
  refine mk_cIe (o := F_X2_wageOf d a1 h) ?_
  intro x2 h1 eh1
  have L1 : lay h1 := lay_call d 258 [.ref 19, .int a1] h _ h1 rfl eh1 L
  refine mX_to 3 (k' := 6) (ls' := [some (.ref 19), some (.int a1), some (.int a2), some (.int x2), none]) (st' := [.int a2, .ref 19]) (h' := h1) rfl ?_
  refine mX_ckct (m := mcl (mE mtab d 258 [.ref 19, .int a2] h1) 1 7 [some (.ref 19), some (.int a1), some (.int a2), some (.int x2), none] []) (k_19 L1) rfl ?_
  refine mk_cIe (o := F_X2_wageOf d a2 h1) ?_
  intro x4 h3 eh3
  have L3 : lay h3 := lay_call d 258 [.ref 19, .int a2] h1 _ h3 rfl eh3 L1
  refine mX_to 3 (k' := 10) (ls' := [some (.ref 19), some (.int a1), some (.int a2), some (.int x2), some (.int x4)]) (st' := [.int x4, .int x2]) (h' := h3) rfl ?_
  refine mX_br (t := 19) (f := 11) (ls' := [some (.ref 19), some (.int a1), some (.int a2), some (.int x2), some (.int x4)]) (st' := []) (h' := h3) rfl ?_ ?_
  · refine mX_to 2 (k' := 22) (ls' := [some (.ref 19), some (.int a1), some (.int a2), some (.int x2), some (.int x4)]) (st' := [.int 1]) (h' := h3) rfl ?_
    exact mX_retb (by decide) rfl
  · refine mX_to 2 (k' := 13) (ls' := [some (.ref 19), some (.int a1), some (.int a2), some (.int x2), some (.int x4)]) (st' := [.int x4, .int x2]) (h' := h3) rfl ?_
    refine mX_br (t := 14) (f := 21) (ls' := [some (.ref 19), some (.int a1), some (.int a2), some (.int x2), some (.int x4)]) (st' := []) (h' := h3) rfl ?_ ?_
    · refine mX_to 1 (k' := 15) (ls' := [some (.ref 19), some (.int a1), some (.int a2), some (.int x2), some (.int x4)]) (st' := [.int a1]) (h' := h3) rfl ?_
      refine mX_cIe (o := mE mtab d 259 [.int a1] h3) (k' := 16) (ls' := [some (.ref 19), some (.int a1), some (.int a2), some (.int x2), some (.int x4)]) (st' := []) rfl ?_
      intro x6 h5 eh5
      have L5 : lay h5 := lay_call d 259 [.int a1] h3 _ h5 rfl eh5 L3
      refine mX_to 1 (k' := 17) (ls' := [some (.ref 19), some (.int a1), some (.int a2), some (.int x2), some (.int x4)]) (st' := [.int a2, .int x6]) (h' := h5) rfl ?_
      refine mX_cIe (o := mE mtab d 259 [.int a2] h5) (k' := 18) (ls' := [some (.ref 19), some (.int a1), some (.int a2), some (.int x2), some (.int x4)]) (st' := [.int x6]) rfl ?_
      intro x8 h7 eh7
      have L7 : lay h7 := lay_call d 259 [.int a2] h5 _ h7 rfl eh7 L5
      refine mX_br (t := 19) (f := 21) (ls' := [some (.ref 19), some (.int a1), some (.int a2), some (.int x2), some (.int x4)]) (st' := []) (h' := h7) rfl ?_ ?_
      · refine mX_to 2 (k' := 22) (ls' := [some (.ref 19), some (.int a1), some (.int a2), some (.int x2), some (.int x4)]) (st' := [.int 1]) (h' := h7) rfl ?_
        exact mX_retb (by decide) rfl
      · refine mX_to 1 (k' := 22) (ls' := [some (.ref 19), some (.int a1), some (.int a2), some (.int x2), some (.int x4)]) (st' := [.int 0]) (h' := h7) rfl ?_
        exact mX_retb (by decide) rfl
    · refine mX_to 1 (k' := 22) (ls' := [some (.ref 19), some (.int a1), some (.int a2), some (.int x2), some (.int x4)]) (st' := [.int 0]) (h' := h3) rfl ?_
      exact mX_retb (by decide) rfl
theorem S_X2_tipSeated_9 {h : MH} (L : lay h) (d : Nat) (l1 : Int32) (l2 : Int32) (l3 : Int32) (l4 : Int32) (l5 : Int32) : G_X2_tipSeated_9 d l1 l2 l3 l4 l5 h = (if l5 < 0 then some (.int l4, h) else cI (F_X10_holds d l1 l5 h) (fun x3 h2 => (if x3 = 0 then G_X2_tipSeated_40 d l1 l2 l3 l4 l5 h2 else ck (ib l5 4) (lt_ (sI h2 22 (ix l5) (l3 - l3 / 9 * 9)) fun h5 => ck (ib l5 4) (ck (ib l5 4) (lt_ (l4 + ((gI h5 20 (ix l5)) * ((gI h5 22 (ix l5)) - 4))) fun v6 => G_X2_tipSeated_40 d l1 l2 (l3 / 9) v6 l5 h5)))))) := by
  refine mX_to 1 (k' := 10) (ls' := [some (.ref 19), some (.int l1), some (.int l2), some (.int l3), some (.int l4), some (.int l5)]) (st' := [.int l5]) (h' := h) rfl ?_
  refine mX_br (t := 42) (f := 11) (ls' := [some (.ref 19), some (.int l1), some (.int l2), some (.int l3), some (.int l4), some (.int l5)]) (st' := []) (h' := h) rfl ?_ ?_
  · refine mX_to 1 (k' := 43) (ls' := [some (.ref 19), some (.int l1), some (.int l2), some (.int l3), some (.int l4), some (.int l5)]) (st' := [.int l4]) (h' := h) rfl ?_
    exact mX_reti rfl
  · refine mX_to 2 (k' := 13) (ls' := [some (.ref 19), some (.int l1), some (.int l2), some (.int l3), some (.int l4), some (.int l5)]) (st' := [.int l5, .int l1]) (h' := h) rfl ?_
    refine mX_cIe (o := F_X10_holds d l1 l5 h) (k' := 14) (ls' := [some (.ref 19), some (.int l1), some (.int l2), some (.int l3), some (.int l4), some (.int l5)]) (st' := []) rfl ?_
    intro x3 h2 eh2
    have L2 : lay h2 := lay_call d 257 [.int l1, .int l5] h _ h2 rfl eh2 L
    refine mX_br (t := 40) (f := 15) (ls' := [some (.ref 19), some (.int l1), some (.int l2), some (.int l3), some (.int l4), some (.int l5)]) (st' := []) (h' := h2) rfl ?_ ?_
    · rfl
    · refine mX_to 1 (k' := 16) (ls' := [some (.ref 19), some (.int l1), some (.int l2), some (.int l3), some (.int l4), some (.int l5)]) (st' := [.ref 19]) (h' := h2) rfl ?_
      refine mX_ckv (v := .ref (gR h2 19 2)) (v' := .ref 22) (k' := 17) (ls' := [some (.ref 19), some (.int l1), some (.int l2), some (.int l3), some (.int l4), some (.int l5)]) (st' := []) (h' := h2) (k_19 L2) (congrArg Value.ref (r_19_2 L2)) rfl ?_
      refine mX_to 3 (k' := 20) (ls' := [some (.ref 19), some (.int l1), some (.int l2), some (.int l3), some (.int l4), some (.int l5)]) (st' := [.int 9, .int l3, .int l5, .ref 22]) (h' := h2) rfl ?_
      refine mX_ckt (c := ¬ (9 : Int32) = 0) (k' := 21) (ls' := [some (.ref 19), some (.int l1), some (.int l2), some (.int l3), some (.int l4), some (.int l5)]) (st' := [.int (l3 - l3 / 9 * 9), .int l5, .ref 22]) (h' := h2) (by decide) rfl ?_
      refine mX_cki (k' := 22) (ls' := [some (.ref 19), some (.int l1), some (.int l2), some (.int l3), some (.int l4), some (.int l5)]) (st' := []) (h' := (sI h2 22 (ix l5) (l3 - l3 / 9 * 9))) (ckA0 (k_22 L2) (n_22 L2)) rfl fun c4 => ?_
      refine lt_geq2 (X := fun h5 : MH => mX (mE mtab d) KX2_tipSeated 22 [some (.ref 19), some (.int l1), some (.int l2), some (.int l3), some (.int l4), some (.int l5)] [] h5) (a := (sI h2 22 (ix l5) (l3 - l3 / 9 * 9))) (a' := (sI h2 22 (ix l5) (l3 - l3 / 9 * 9))) rfl fun h5 eh5 => ?_
      have L5 : lay h5 := eh5 ▸ layI L2 (by decide)
      refine mX_to 2 (k' := 24) (ls' := [some (.ref 19), some (.int l1), some (.int l2), some (.int l3), some (.int l4), some (.int l5)]) (st' := [.int 9, .int l3]) (h' := h5) rfl ?_
      refine mX_ckt (c := ¬ (9 : Int32) = 0) (k' := 25) (ls' := [some (.ref 19), some (.int l1), some (.int l2), some (.int l3), some (.int l4), some (.int l5)]) (st' := [.int (l3 / 9)]) (h' := h5) (by decide) rfl ?_
      refine mX_to 3 (k' := 28) (ls' := [some (.ref 19), some (.int l1), some (.int l2), some (.int (l3 / 9)), some (.int l4), some (.int l5)]) (st' := [.ref 19, .int l4]) (h' := h5) rfl ?_
      refine mX_ckv (v := .ref (gR h5 19 0)) (v' := .ref 20) (k' := 29) (ls' := [some (.ref 19), some (.int l1), some (.int l2), some (.int (l3 / 9)), some (.int l4), some (.int l5)]) (st' := [.int l4]) (h' := h5) (k_19 L5) (congrArg Value.ref (r_19_0 L5)) rfl ?_
      refine mX_to 1 (k' := 30) (ls' := [some (.ref 19), some (.int l1), some (.int l2), some (.int (l3 / 9)), some (.int l4), some (.int l5)]) (st' := [.int l5, .ref 20, .int l4]) (h' := h5) rfl ?_
      refine mX_ckw (v := .int (gI h5 20 (ix l5))) (v' := .int (gI h5 20 (ix l5))) (k' := 31) (ls' := [some (.ref 19), some (.int l1), some (.int l2), some (.int (l3 / 9)), some (.int l4), some (.int l5)]) (st' := [.int l4]) (h' := h5) (ckA1 (k_20 L5) (n_20 L5)) rfl rfl fun c8 => ?_
      refine mX_to 1 (k' := 32) (ls' := [some (.ref 19), some (.int l1), some (.int l2), some (.int (l3 / 9)), some (.int l4), some (.int l5)]) (st' := [.ref 19, .int (gI h5 20 (ix l5)), .int l4]) (h' := h5) rfl ?_
      refine mX_ckv (v := .ref (gR h5 19 2)) (v' := .ref 22) (k' := 33) (ls' := [some (.ref 19), some (.int l1), some (.int l2), some (.int (l3 / 9)), some (.int l4), some (.int l5)]) (st' := [.int (gI h5 20 (ix l5)), .int l4]) (h' := h5) (k_19 L5) (congrArg Value.ref (r_19_2 L5)) rfl ?_
      refine mX_to 1 (k' := 34) (ls' := [some (.ref 19), some (.int l1), some (.int l2), some (.int (l3 / 9)), some (.int l4), some (.int l5)]) (st' := [.int l5, .ref 22, .int (gI h5 20 (ix l5)), .int l4]) (h' := h5) rfl ?_
      refine mX_ckw (v := .int (gI h5 22 (ix l5))) (v' := .int (gI h5 22 (ix l5))) (k' := 35) (ls' := [some (.ref 19), some (.int l1), some (.int l2), some (.int (l3 / 9)), some (.int l4), some (.int l5)]) (st' := [.int (gI h5 20 (ix l5)), .int l4]) (h' := h5) (ckA1 (k_22 L5) (n_22 L5)) rfl rfl fun c7 => ?_
      refine mX_to 4 (k' := 39) (ls' := [some (.ref 19), some (.int l1), some (.int l2), some (.int (l3 / 9)), some (.int l4), some (.int l5)]) (st' := [.int (l4 + ((gI h5 20 (ix l5)) * ((gI h5 22 (ix l5)) - 4)))]) (h' := h5) rfl ?_
      refine lt_gen (X := fun v6 : Int32 => mX (mE mtab d) KX2_tipSeated 39 [some (.ref 19), some (.int l1), some (.int l2), some (.int (l3 / 9)), some (.int l4), some (.int l5)] [.int v6] h5) fun v6 => ?_
      refine mX_to 1 (k' := 40) (ls' := [some (.ref 19), some (.int l1), some (.int l2), some (.int (l3 / 9)), some (.int v6), some (.int l5)]) (st' := []) (h' := h5) rfl ?_
      rfl
theorem S_X2_tipSeated_40 {h : MH} (L : lay h) (d : Nat) (l1 : Int32) (l2 : Int32) (l3 : Int32) (l4 : Int32) (l5 : Int32) : G_X2_tipSeated_40 d l1 l2 l3 l4 l5 h = G_X2_tipSeated_9 d l1 l2 l3 l4 (l5 + (-1)) h := by
  refine mX_to 2 (k' := 9) (ls' := [some (.ref 19), some (.int l1), some (.int l2), some (.int l3), some (.int l4), some (.int (l5 + (-1)))]) (st' := []) (h' := h) rfl ?_
  rfl
theorem S_X2_tipSeated {h : MH} (L : lay h) (d : Nat) (a1 : Int32) (a2 : Int32) : F_X2_tipSeated (d + 1) a1 a2 h = lt_ ((gI h 19 3) - 1) fun v1 => G_X2_tipSeated_9 d a1 a2 a2 0 v1 h := by
  refine mE_eq (q := (yX2_tipSeated, cX2_tipSeated, 6, (some .int), KX2_tipSeated)) (C := KX2_tipSeated) (ls := [some (.ref 19), some (.int a1), some (.int a2), none, none, none]) rfl rfl rfl rfl ?_
  refine mX_to 5 (k' := 5) (ls' := [some (.ref 19), some (.int a1), some (.int a2), some (.int a2), some (.int 0), none]) (st' := [.ref 19]) (h' := h) rfl ?_
  refine mX_ckv (v := .int (gI h 19 3)) (v' := .int (gI h 19 3)) (k' := 6) (ls' := [some (.ref 19), some (.int a1), some (.int a2), some (.int a2), some (.int 0), none]) (st' := []) (h' := h) (k_19 L) rfl rfl ?_
  refine mX_to 2 (k' := 8) (ls' := [some (.ref 19), some (.int a1), some (.int a2), some (.int a2), some (.int 0), none]) (st' := [.int ((gI h 19 3) - 1)]) (h' := h) rfl ?_
  refine lt_gen (X := fun v1 : Int32 => mX (mE mtab d) KX2_tipSeated 8 [some (.ref 19), some (.int a1), some (.int a2), some (.int a2), some (.int 0), none] [.int v1] h) fun v1 => ?_
  refine mX_to 1 (k' := 9) (ls' := [some (.ref 19), some (.int a1), some (.int a2), some (.int a2), some (.int 0), some (.int v1)]) (st' := []) (h' := h) rfl ?_
  rfl
theorem S_X2_seat_7 {h : MH} (L : lay h) (d : Nat) (l1 : Int32) (l2 : Int32) (l3 : Int32) (l4 : Int32) : G_X2_seat_7 d l1 l2 l3 l4 h = (if l4 < l3 then cI (F_X2_tipSeated d l1 l4 h) (fun x6 h5 => (if (l2 + x6) = 0 then some (.int 1, h5) else G_X2_seat_7 d l1 l2 l3 (l4 + 1) h5)) else some (.int 0, h)) := by
  refine mX_to 2 (k' := 9) (ls' := [some (.ref 19), some (.int l1), some (.int l2), some (.int l3), some (.int l4)]) (st' := [.int l3, .int l4]) (h' := h) rfl ?_
  refine mX_br (t := 10) (f := 21) (ls' := [some (.ref 19), some (.int l1), some (.int l2), some (.int l3), some (.int l4)]) (st' := []) (h' := h) rfl ?_ ?_
  · refine mX_to 4 (k' := 14) (ls' := [some (.ref 19), some (.int l1), some (.int l2), some (.int l3), some (.int l4)]) (st' := [.int l4, .int l1, .ref 19, .int l2]) (h' := h) rfl ?_
    refine mX_ckct (m := mcl (mE mtab d 261 [.ref 19, .int l1, .int l4] h) 1 15 [some (.ref 19), some (.int l1), some (.int l2), some (.int l3), some (.int l4)] [.int l2]) (k_19 L) rfl ?_
    refine mk_cIe (o := F_X2_tipSeated d l1 l4 h) ?_
    intro x6 h5 eh5
    have L5 : lay h5 := lay_call d 261 [.ref 19, .int l1, .int l4] h _ h5 rfl eh5 L
    refine mX_to 1 (k' := 16) (ls' := [some (.ref 19), some (.int l1), some (.int l2), some (.int l3), some (.int l4)]) (st' := [.int (l2 + x6)]) (h' := h5) rfl ?_
    refine mX_br (t := 17) (f := 19) (ls' := [some (.ref 19), some (.int l1), some (.int l2), some (.int l3), some (.int l4)]) (st' := []) (h' := h5) rfl ?_ ?_
    · refine mX_to 1 (k' := 18) (ls' := [some (.ref 19), some (.int l1), some (.int l2), some (.int l3), some (.int l4)]) (st' := [.int 1]) (h' := h5) rfl ?_
      exact mX_retb (by decide) rfl
    · refine mX_to 2 (k' := 7) (ls' := [some (.ref 19), some (.int l1), some (.int l2), some (.int l3), some (.int (l4 + 1))]) (st' := []) (h' := h5) rfl ?_
      rfl
  · refine mX_to 1 (k' := 22) (ls' := [some (.ref 19), some (.int l1), some (.int l2), some (.int l3), some (.int l4)]) (st' := [.int 0]) (h' := h) rfl ?_
    exact mX_retb (by decide) rfl
theorem S_X2_seat {h : MH} (L : lay h) (d : Nat) (a1 : Int32) (a2 : Int32) : F_X2_seat (d + 1) a1 a2 h = cI (mE mtab d 259 [.int a1] h) (fun x2 h1 => ck (ib x2 5) (lt_ (gI h1 2 (ix x2)) fun v3 => G_X2_seat_7 d a1 a2 v3 0 h1)) := by
  refine mE_eq (q := (yX2_seat, cX2_seat, 5, (some .boolean), KX2_seat)) (C := KX2_seat) (ls := [some (.ref 19), some (.int a1), some (.int a2), none, none]) rfl rfl rfl rfl ?_
  refine mX_to 2 (k' := 2) (ls' := [some (.ref 19), some (.int a1), some (.int a2), none, none]) (st' := [.int a1, .ref 2]) (h' := h) rfl ?_
  refine mX_cIe (o := mE mtab d 259 [.int a1] h) (k' := 3) (ls' := [some (.ref 19), some (.int a1), some (.int a2), none, none]) (st' := [.ref 2]) rfl ?_
  intro x2 h1 eh1
  have L1 : lay h1 := lay_call d 259 [.int a1] h _ h1 rfl eh1 L
  refine mX_ckw (v := .int (gI h1 2 (ix x2))) (v' := .int (gI h1 2 (ix x2))) (k' := 4) (ls' := [some (.ref 19), some (.int a1), some (.int a2), none, none]) (st' := []) (h' := h1) (ckA2 (k_2 L1) (n_2 L1)) rfl rfl fun c4 => ?_
  refine lt_gen (X := fun v3 : Int32 => mX (mE mtab d) KX2_seat 4 [some (.ref 19), some (.int a1), some (.int a2), none, none] [.int v3] h1) fun v3 => ?_
  refine mX_to 3 (k' := 7) (ls' := [some (.ref 19), some (.int a1), some (.int a2), some (.int v3), some (.int 0)]) (st' := []) (h' := h1) rfl ?_
  rfl
theorem S_X2_cheapest_4 {h : MH} (L : lay h) (d : Nat) (l1 : Int32) (l2 : Int32) (l3 : Int32) : G_X2_cheapest_4 d l1 l2 l3 h = (if l3 < (1 <<< ((gI h 19 3) &&& 31)) then (if l2 = (-1) then G_X2_cheapest_18 d l1 l2 l3 h else cI (F_X2_isCheaper d l3 l2 h) (fun x2 h1 => (if x2 = 0 then G_X2_cheapest_25 d l1 l2 l3 h1 else G_X2_cheapest_18 d l1 l2 l3 h1))) else (if l2 = (-1) then some (.int l2, h) else cI (F_X2_seat d l2 l1 h) (fun x4 h3 => some (.int l2, h3)))) := by
  refine mX_to 3 (k' := 7) (ls' := [some (.ref 19), some (.int l1), some (.int l2), some (.int l3)]) (st' := [.ref 19, .int 1, .int l3]) (h' := h) rfl ?_
  refine mX_ckv (v := .int (gI h 19 3)) (v' := .int (gI h 19 3)) (k' := 8) (ls' := [some (.ref 19), some (.int l1), some (.int l2), some (.int l3)]) (st' := [.int 1, .int l3]) (h' := h) (k_19 L) rfl rfl ?_
  refine mX_to 1 (k' := 9) (ls' := [some (.ref 19), some (.int l1), some (.int l2), some (.int l3)]) (st' := [.int (1 <<< ((gI h 19 3) &&& 31)), .int l3]) (h' := h) rfl ?_
  refine mX_br (t := 10) (f := 27) (ls' := [some (.ref 19), some (.int l1), some (.int l2), some (.int l3)]) (st' := []) (h' := h) rfl ?_ ?_
  · refine mX_to 2 (k' := 12) (ls' := [some (.ref 19), some (.int l1), some (.int l2), some (.int l3)]) (st' := [.int (-1), .int l2]) (h' := h) rfl ?_
    refine mX_br (t := 18) (f := 13) (ls' := [some (.ref 19), some (.int l1), some (.int l2), some (.int l3)]) (st' := []) (h' := h) rfl ?_ ?_
    · rfl
    · refine mX_to 3 (k' := 16) (ls' := [some (.ref 19), some (.int l1), some (.int l2), some (.int l3)]) (st' := [.int l2, .int l3, .ref 19]) (h' := h) rfl ?_
      refine mX_ckct (m := mcl (mE mtab d 260 [.ref 19, .int l3, .int l2] h) 1 17 [some (.ref 19), some (.int l1), some (.int l2), some (.int l3)] []) (k_19 L) rfl ?_
      refine mk_cIe (o := F_X2_isCheaper d l3 l2 h) ?_
      intro x2 h1 eh1
      have L1 : lay h1 := lay_call d 260 [.ref 19, .int l3, .int l2] h _ h1 rfl eh1 L
      refine mX_br (t := 25) (f := 18) (ls' := [some (.ref 19), some (.int l1), some (.int l2), some (.int l3)]) (st' := []) (h' := h1) rfl ?_ ?_
      · rfl
      · rfl
  · refine mX_to 2 (k' := 29) (ls' := [some (.ref 19), some (.int l1), some (.int l2), some (.int l3)]) (st' := [.int (-1), .int l2]) (h' := h) rfl ?_
    refine mX_br (t := 35) (f := 30) (ls' := [some (.ref 19), some (.int l1), some (.int l2), some (.int l3)]) (st' := []) (h' := h) rfl ?_ ?_
    · refine mX_to 1 (k' := 36) (ls' := [some (.ref 19), some (.int l1), some (.int l2), some (.int l3)]) (st' := [.int l2]) (h' := h) rfl ?_
      exact mX_reti rfl
    · refine mX_to 3 (k' := 33) (ls' := [some (.ref 19), some (.int l1), some (.int l2), some (.int l3)]) (st' := [.int l1, .int l2, .ref 19]) (h' := h) rfl ?_
      refine mX_ckct (m := mcl (mE mtab d 262 [.ref 19, .int l2, .int l1] h) 1 34 [some (.ref 19), some (.int l1), some (.int l2), some (.int l3)] []) (k_19 L) rfl ?_
      refine mk_cIe (o := F_X2_seat d l2 l1 h) ?_
      intro x4 h3 eh3
      have L3 : lay h3 := lay_call d 262 [.ref 19, .int l2, .int l1] h _ h3 rfl eh3 L
      refine mX_to 2 (k' := 36) (ls' := [some (.ref 19), some (.int l1), some (.int l2), some (.int l3)]) (st' := [.int l2]) (h' := h3) rfl ?_
      exact mX_reti rfl
theorem S_X2_cheapest_18 {h : MH} (L : lay h) (d : Nat) (l1 : Int32) (l2 : Int32) (l3 : Int32) : G_X2_cheapest_18 d l1 l2 l3 h = cI (F_X2_seat d l3 l1 h) (fun x6 h5 => (if x6 = 0 then G_X2_cheapest_25 d l1 l2 l3 h5 else G_X2_cheapest_25 d l1 l3 l3 h5)) := by
  refine mX_to 3 (k' := 21) (ls' := [some (.ref 19), some (.int l1), some (.int l2), some (.int l3)]) (st' := [.int l1, .int l3, .ref 19]) (h' := h) rfl ?_
  refine mX_ckct (m := mcl (mE mtab d 262 [.ref 19, .int l3, .int l1] h) 1 22 [some (.ref 19), some (.int l1), some (.int l2), some (.int l3)] []) (k_19 L) rfl ?_
  refine mk_cIe (o := F_X2_seat d l3 l1 h) ?_
  intro x6 h5 eh5
  have L5 : lay h5 := lay_call d 262 [.ref 19, .int l3, .int l1] h _ h5 rfl eh5 L
  refine mX_br (t := 25) (f := 23) (ls' := [some (.ref 19), some (.int l1), some (.int l2), some (.int l3)]) (st' := []) (h' := h5) rfl ?_ ?_
  · rfl
  · refine mX_to 2 (k' := 25) (ls' := [some (.ref 19), some (.int l1), some (.int l3), some (.int l3)]) (st' := []) (h' := h5) rfl ?_
    rfl
theorem S_X2_cheapest_25 {h : MH} (L : lay h) (d : Nat) (l1 : Int32) (l2 : Int32) (l3 : Int32) : G_X2_cheapest_25 d l1 l2 l3 h = G_X2_cheapest_4 d l1 l2 (l3 + 1) h := by
  refine mX_to 2 (k' := 4) (ls' := [some (.ref 19), some (.int l1), some (.int l2), some (.int (l3 + 1))]) (st' := []) (h' := h) rfl ?_
  rfl
theorem S_X2_cheapest {h : MH} (L : lay h) (d : Nat) (a1 : Int32) : F_X2_cheapest (d + 1) a1 h = G_X2_cheapest_4 d a1 (-1) 0 h := by
  refine mE_eq (q := (yX2_cheapest, cX2_cheapest, 4, (some .int), KX2_cheapest)) (C := KX2_cheapest) (ls := [some (.ref 19), some (.int a1), none, none]) rfl rfl rfl rfl ?_
  refine mX_to 4 (k' := 4) (ls' := [some (.ref 19), some (.int a1), some (.int (-1)), some (.int 0)]) (st' := []) (h' := h) rfl ?_
  rfl
theorem S_X10_paid {h : MH} (L : lay h) (d : Nat) (a1 : Int32) : F_X10_paid (d + 1) a1 h = cI (F_X9_tipNow d 10 h) (fun x2 h1 => cI (F_X2_cheapest d x2 h1) (fun x4 h3 => (if x4 = (-1) then some (.int (-1), h3) else (if a1 = 0 then some (.int x4, h3) else cI (F_X2_wageOf d x4 h3) (fun x6 h5 => some (.int x6, h5)))))) := by
  refine mE_eq (q := (yX10_paid, cX10_paid, 3, (some .int), KX10_paid)) (C := KX10_paid) (ls := [some (.ref 8), some (.int a1), none]) rfl rfl rfl rfl ?_
  refine mX_to 1 (k' := 1) (ls' := [some (.ref 8), some (.int a1), none]) (st' := [.ref 8]) (h' := h) rfl ?_
  refine mX_ckv (v := .ref (gR h 8 0)) (v' := .ref 9) (k' := 2) (ls' := [some (.ref 8), some (.int a1), none]) (st' := []) (h' := h) (k_8 L) (congrArg Value.ref (r_8_0 L)) rfl ?_
  refine mX_ckv (v := .ref (gR h 9 2)) (v' := .ref 19) (k' := 3) (ls' := [some (.ref 8), some (.int a1), none]) (st' := []) (h' := h) (k_9 L) (congrArg Value.ref (r_9_2 L)) rfl ?_
  refine mX_to 1 (k' := 4) (ls' := [some (.ref 8), some (.int a1), none]) (st' := [.ref 8, .ref 19]) (h' := h) rfl ?_
  refine mX_ckv (v := .ref (gR h 8 0)) (v' := .ref 9) (k' := 5) (ls' := [some (.ref 8), some (.int a1), none]) (st' := [.ref 19]) (h' := h) (k_8 L) (congrArg Value.ref (r_8_0 L)) rfl ?_
  refine mX_ckv (v := .ref (gR h 9 0)) (v' := .ref 10) (k' := 6) (ls' := [some (.ref 8), some (.int a1), none]) (st' := [.ref 19]) (h' := h) (k_9 L) (congrArg Value.ref (r_9_0 L)) rfl ?_
  refine mX_ckct (m := mcl (mE mtab d 139 [.ref 10] h) 1 7 [some (.ref 8), some (.int a1), none] [.ref 19]) (k_10 L) rfl ?_
  refine mk_cIe (o := F_X9_tipNow d 10 h) ?_
  intro x2 h1 eh1
  have L1 : lay h1 := lay_call d 139 [.ref 10] h _ h1 rfl eh1 L
  refine mX_ckct (m := mcl (mE mtab d 263 [.ref 19, .int x2] h1) 1 8 [some (.ref 8), some (.int a1), none] []) (k_19 L1) rfl ?_
  refine mk_cIe (o := F_X2_cheapest d x2 h1) ?_
  intro x4 h3 eh3
  have L3 : lay h3 := lay_call d 263 [.ref 19, .int x2] h1 _ h3 rfl eh3 L1
  refine mX_to 3 (k' := 11) (ls' := [some (.ref 8), some (.int a1), some (.int x4)]) (st' := [.int (-1), .int x4]) (h' := h3) rfl ?_
  refine mX_br (t := 12) (f := 14) (ls' := [some (.ref 8), some (.int a1), some (.int x4)]) (st' := []) (h' := h3) rfl ?_ ?_
  · refine mX_to 1 (k' := 13) (ls' := [some (.ref 8), some (.int a1), some (.int x4)]) (st' := [.int (-1)]) (h' := h3) rfl ?_
    exact mX_reti rfl
  · refine mX_to 1 (k' := 15) (ls' := [some (.ref 8), some (.int a1), some (.int x4)]) (st' := [.int a1]) (h' := h3) rfl ?_
    refine mX_br (t := 22) (f := 16) (ls' := [some (.ref 8), some (.int a1), some (.int x4)]) (st' := []) (h' := h3) rfl ?_ ?_
    · refine mX_to 1 (k' := 23) (ls' := [some (.ref 8), some (.int a1), some (.int x4)]) (st' := [.int x4]) (h' := h3) rfl ?_
      exact mX_reti rfl
    · refine mX_to 1 (k' := 17) (ls' := [some (.ref 8), some (.int a1), some (.int x4)]) (st' := [.ref 8]) (h' := h3) rfl ?_
      refine mX_ckv (v := .ref (gR h3 8 0)) (v' := .ref 9) (k' := 18) (ls' := [some (.ref 8), some (.int a1), some (.int x4)]) (st' := []) (h' := h3) (k_8 L3) (congrArg Value.ref (r_8_0 L3)) rfl ?_
      refine mX_ckv (v := .ref (gR h3 9 2)) (v' := .ref 19) (k' := 19) (ls' := [some (.ref 8), some (.int a1), some (.int x4)]) (st' := []) (h' := h3) (k_9 L3) (congrArg Value.ref (r_9_2 L3)) rfl ?_
      refine mX_to 1 (k' := 20) (ls' := [some (.ref 8), some (.int a1), some (.int x4)]) (st' := [.int x4, .ref 19]) (h' := h3) rfl ?_
      refine mX_ckct (m := mcl (mE mtab d 258 [.ref 19, .int x4] h3) 1 21 [some (.ref 8), some (.int a1), some (.int x4)] []) (k_19 L3) rfl ?_
      refine mk_cIe (o := F_X2_wageOf d x4 h3) ?_
      intro x6 h5 eh5
      have L5 : lay h5 := lay_call d 258 [.ref 19, .int x4] h3 _ h5 rfl eh5 L3
      refine mX_to 1 (k' := 23) (ls' := [some (.ref 8), some (.int a1), some (.int x4)]) (st' := [.int x6]) (h' := h5) rfl ?_
      exact mX_reti rfl
theorem S_X11_areStands_7 {h : MH} (L : lay h) (d : Nat) (l1 : Int32) (l2 : Int32) (l3 : Int32) (l4 : Int32) : G_X11_areStands_7 d l1 l2 l3 l4 h = (if l4 < (gI h 68 1) then ck (ib l4 4) (lt_ (sI h 80 (ix l4) (l2 - l2 / 10 * 10)) fun h4 => ck (ib l4 4) ((if (gI h4 80 (ix l4)) < 9 then ck (ib (34 + (2 * l4)) 1498) (ck (ib l4 4) (G_X11_areStands_48 d l1 (l2 / 10) l3 l4 ((gI h4 68 (ix (34 + (2 * l4)))) * ((gI h4 80 (ix l4)) - 4)) l3 h4)) else G_X11_areStands_48 d l1 (l2 / 10) l3 l4 0 l3 h4))) else (if l3 = 0 then some (.int 1, h) else some (.int 0, h))) := by
  refine mX_to 2 (k' := 9) (ls' := [some (.ref 67), some (.int l1), some (.int l2), some (.int l3), some (.int l4)]) (st' := [.ref 67, .int l4]) (h' := h) rfl ?_
  refine mX_ckv (v := .ref (gR h 67 0)) (v' := .ref 68) (k' := 10) (ls' := [some (.ref 67), some (.int l1), some (.int l2), some (.int l3), some (.int l4)]) (st' := [.int l4]) (h' := h) (k_67 L) (congrArg Value.ref (r_67_0 L)) rfl ?_
  refine mX_to 1 (k' := 11) (ls' := [some (.ref 67), some (.int l1), some (.int l2), some (.int l3), some (.int l4)]) (st' := [.int 1, .ref 68, .int l4]) (h' := h) rfl ?_
  refine mX_ckv (v := .int (gI h 68 (ix (1 : Int32)))) (v' := .int (gI h 68 1)) (k' := 12) (ls' := [some (.ref 67), some (.int l1), some (.int l2), some (.int l3), some (.int l4)]) (st' := [.int l4]) (h' := h) ((ckA1 (k_68 L) (n_68 L)).mpr (ib_lit (n := 1) rfl (by decide) (by decide))) (congrArg (fun j => Value.int (gI h 68 j)) (ix_lit (n := 1) rfl (by decide))) rfl ?_
  refine mX_br (t := 13) (f := 52) (ls' := [some (.ref 67), some (.int l1), some (.int l2), some (.int l3), some (.int l4)]) (st' := []) (h' := h) rfl ?_ ?_
  · refine mX_to 1 (k' := 14) (ls' := [some (.ref 67), some (.int l1), some (.int l2), some (.int l3), some (.int l4)]) (st' := [.ref 67]) (h' := h) rfl ?_
    refine mX_ckv (v := .ref (gR h 67 29)) (v' := .ref 80) (k' := 15) (ls' := [some (.ref 67), some (.int l1), some (.int l2), some (.int l3), some (.int l4)]) (st' := []) (h' := h) (k_67 L) (congrArg Value.ref (r_67_29 L)) rfl ?_
    refine mX_to 3 (k' := 18) (ls' := [some (.ref 67), some (.int l1), some (.int l2), some (.int l3), some (.int l4)]) (st' := [.int 10, .int l2, .int l4, .ref 80]) (h' := h) rfl ?_
    refine mX_ckt (c := ¬ (10 : Int32) = 0) (k' := 19) (ls' := [some (.ref 67), some (.int l1), some (.int l2), some (.int l3), some (.int l4)]) (st' := [.int (l2 - l2 / 10 * 10), .int l4, .ref 80]) (h' := h) (by decide) rfl ?_
    refine mX_cki (k' := 20) (ls' := [some (.ref 67), some (.int l1), some (.int l2), some (.int l3), some (.int l4)]) (st' := []) (h' := (sI h 80 (ix l4) (l2 - l2 / 10 * 10))) (ckA0 (k_80 L) (n_80 L)) rfl fun c3 => ?_
    refine lt_geq2 (X := fun h4 : MH => mX (mE mtab d) KX11_areStands 20 [some (.ref 67), some (.int l1), some (.int l2), some (.int l3), some (.int l4)] [] h4) (a := (sI h 80 (ix l4) (l2 - l2 / 10 * 10))) (a' := (sI h 80 (ix l4) (l2 - l2 / 10 * 10))) rfl fun h4 eh4 => ?_
    have L4 : lay h4 := eh4 ▸ layI L (by decide)
    refine mX_to 2 (k' := 22) (ls' := [some (.ref 67), some (.int l1), some (.int l2), some (.int l3), some (.int l4)]) (st' := [.int 10, .int l2]) (h' := h4) rfl ?_
    refine mX_ckt (c := ¬ (10 : Int32) = 0) (k' := 23) (ls' := [some (.ref 67), some (.int l1), some (.int l2), some (.int l3), some (.int l4)]) (st' := [.int (l2 / 10)]) (h' := h4) (by decide) rfl ?_
    refine mX_to 3 (k' := 26) (ls' := [some (.ref 67), some (.int l1), some (.int (l2 / 10)), some (.int l3), some (.int l4)]) (st' := [.ref 67, .int l3]) (h' := h4) rfl ?_
    refine mX_ckv (v := .ref (gR h4 67 29)) (v' := .ref 80) (k' := 27) (ls' := [some (.ref 67), some (.int l1), some (.int (l2 / 10)), some (.int l3), some (.int l4)]) (st' := [.int l3]) (h' := h4) (k_67 L4) (congrArg Value.ref (r_67_29 L4)) rfl ?_
    refine mX_to 1 (k' := 28) (ls' := [some (.ref 67), some (.int l1), some (.int (l2 / 10)), some (.int l3), some (.int l4)]) (st' := [.int l4, .ref 80, .int l3]) (h' := h4) rfl ?_
    refine mX_ckw (v := .int (gI h4 80 (ix l4))) (v' := .int (gI h4 80 (ix l4))) (k' := 29) (ls' := [some (.ref 67), some (.int l1), some (.int (l2 / 10)), some (.int l3), some (.int l4)]) (st' := [.int l3]) (h' := h4) (ckA1 (k_80 L4) (n_80 L4)) rfl rfl fun c7 => ?_
    refine mX_to 1 (k' := 30) (ls' := [some (.ref 67), some (.int l1), some (.int (l2 / 10)), some (.int l3), some (.int l4)]) (st' := [.int 9, .int (gI h4 80 (ix l4)), .int l3]) (h' := h4) rfl ?_
    refine mX_br (t := 31) (f := 47) (ls' := [some (.ref 67), some (.int l1), some (.int (l2 / 10)), some (.int l3), some (.int l4)]) (st' := [.int l3]) (h' := h4) rfl ?_ ?_
    · refine mX_to 1 (k' := 32) (ls' := [some (.ref 67), some (.int l1), some (.int (l2 / 10)), some (.int l3), some (.int l4)]) (st' := [.ref 67, .int l3]) (h' := h4) rfl ?_
      refine mX_ckv (v := .ref (gR h4 67 0)) (v' := .ref 68) (k' := 33) (ls' := [some (.ref 67), some (.int l1), some (.int (l2 / 10)), some (.int l3), some (.int l4)]) (st' := [.int l3]) (h' := h4) (k_67 L4) (congrArg Value.ref (r_67_0 L4)) rfl ?_
      refine mX_to 5 (k' := 38) (ls' := [some (.ref 67), some (.int l1), some (.int (l2 / 10)), some (.int l3), some (.int l4)]) (st' := [.int (34 + (2 * l4)), .ref 68, .int l3]) (h' := h4) rfl ?_
      refine mX_ckw (v := .int (gI h4 68 (ix (34 + (2 * l4))))) (v' := .int (gI h4 68 (ix (34 + (2 * l4))))) (k' := 39) (ls' := [some (.ref 67), some (.int l1), some (.int (l2 / 10)), some (.int l3), some (.int l4)]) (st' := [.int l3]) (h' := h4) (ckA1 (k_68 L4) (n_68 L4)) rfl rfl fun c6 => ?_
      refine mX_to 1 (k' := 40) (ls' := [some (.ref 67), some (.int l1), some (.int (l2 / 10)), some (.int l3), some (.int l4)]) (st' := [.ref 67, .int (gI h4 68 (ix (34 + (2 * l4)))), .int l3]) (h' := h4) rfl ?_
      refine mX_ckv (v := .ref (gR h4 67 29)) (v' := .ref 80) (k' := 41) (ls' := [some (.ref 67), some (.int l1), some (.int (l2 / 10)), some (.int l3), some (.int l4)]) (st' := [.int (gI h4 68 (ix (34 + (2 * l4)))), .int l3]) (h' := h4) (k_67 L4) (congrArg Value.ref (r_67_29 L4)) rfl ?_
      refine mX_to 1 (k' := 42) (ls' := [some (.ref 67), some (.int l1), some (.int (l2 / 10)), some (.int l3), some (.int l4)]) (st' := [.int l4, .ref 80, .int (gI h4 68 (ix (34 + (2 * l4)))), .int l3]) (h' := h4) rfl ?_
      refine mX_ckw (v := .int (gI h4 80 (ix l4))) (v' := .int (gI h4 80 (ix l4))) (k' := 43) (ls' := [some (.ref 67), some (.int l1), some (.int (l2 / 10)), some (.int l3), some (.int l4)]) (st' := [.int (gI h4 68 (ix (34 + (2 * l4)))), .int l3]) (h' := h4) (ckA1 (k_80 L4) (n_80 L4)) rfl rfl fun c5 => ?_
      refine mX_to 4 (k' := 48) (ls' := [some (.ref 67), some (.int l1), some (.int (l2 / 10)), some (.int l3), some (.int l4)]) (st' := [.int ((gI h4 68 (ix (34 + (2 * l4)))) * ((gI h4 80 (ix l4)) - 4)), .int l3]) (h' := h4) rfl ?_
      rfl
    · refine mX_to 1 (k' := 48) (ls' := [some (.ref 67), some (.int l1), some (.int (l2 / 10)), some (.int l3), some (.int l4)]) (st' := [.int 0, .int l3]) (h' := h4) rfl ?_
      rfl
  · refine mX_to 1 (k' := 53) (ls' := [some (.ref 67), some (.int l1), some (.int l2), some (.int l3), some (.int l4)]) (st' := [.int l3]) (h' := h) rfl ?_
    refine mX_br (t := 54) (f := 56) (ls' := [some (.ref 67), some (.int l1), some (.int l2), some (.int l3), some (.int l4)]) (st' := []) (h' := h) rfl ?_ ?_
    · refine mX_to 2 (k' := 57) (ls' := [some (.ref 67), some (.int l1), some (.int l2), some (.int l3), some (.int l4)]) (st' := [.int 1]) (h' := h) rfl ?_
      exact mX_retb (by decide) rfl
    · refine mX_to 1 (k' := 57) (ls' := [some (.ref 67), some (.int l1), some (.int l2), some (.int l3), some (.int l4)]) (st' := [.int 0]) (h' := h) rfl ?_
      exact mX_retb (by decide) rfl
theorem S_X11_areStands_48 {h : MH} (L : lay h) (d : Nat) (l1 : Int32) (l2 : Int32) (l3 : Int32) (l4 : Int32) (s0 : Int32) (s1 : Int32) : G_X11_areStands_48 d l1 l2 l3 l4 s0 s1 h = G_X11_areStands_7 d l1 l2 (s1 + s0) (l4 + 1) h := by
  refine mX_to 4 (k' := 7) (ls' := [some (.ref 67), some (.int l1), some (.int l2), some (.int (s1 + s0)), some (.int (l4 + 1))]) (st' := []) (h' := h) rfl ?_
  rfl
theorem S_X11_areStands {h : MH} (L : lay h) (d : Nat) (a1 : Int32) : F_X11_areStands (d + 1) a1 h = cI (F_X11_tipNow d h) (fun x2 h1 => G_X11_areStands_7 d a1 a1 x2 0 h1) := by
  refine mE_eq (q := (yX11_areStands, cX11_areStands, 5, (some .boolean), KX11_areStands)) (C := KX11_areStands) (ls := [some (.ref 67), some (.int a1), none, none, none]) rfl rfl rfl rfl ?_
  refine mX_to 3 (k' := 3) (ls' := [some (.ref 67), some (.int a1), some (.int a1), none, none]) (st' := [.ref 67]) (h' := h) rfl ?_
  refine mX_ckct (m := mcl (mE mtab d 156 [.ref 67] h) 1 4 [some (.ref 67), some (.int a1), some (.int a1), none, none] []) (k_67 L) rfl ?_
  refine mk_cIe (o := F_X11_tipNow d h) ?_
  intro x2 h1 eh1
  have L1 : lay h1 := lay_call d 156 [.ref 67] h _ h1 rfl eh1 L
  refine mX_to 3 (k' := 7) (ls' := [some (.ref 67), some (.int a1), some (.int a1), some (.int x2), some (.int 0)]) (st' := []) (h' := h1) rfl ?_
  rfl
theorem S_X11_standing_4 {h : MH} (L : lay h) (d : Nat) (l1 : Nat) (l2 : Int32) (l3 : Int32) : G_X11_standing_4 d l1 l2 l3 h = (if l3 < (gI h 68 1) then ck ((kd h l1 = 20 ∨ kd h l1 = 24) ∧ ib l3 (ln h l1)) ((if (gI h l1 (ix l3)) < 9 then G_X11_standing_21 d l1 l2 l3 (1 <<< (l3 &&& 31)) l2 h else G_X11_standing_21 d l1 l2 l3 0 l2 h)) else some (.int l2, h)) := by
  refine mX_to 2 (k' := 6) (ls' := [some (.ref 67), some (.ref l1), some (.int l2), some (.int l3)]) (st' := [.ref 67, .int l3]) (h' := h) rfl ?_
  refine mX_ckv (v := .ref (gR h 67 0)) (v' := .ref 68) (k' := 7) (ls' := [some (.ref 67), some (.ref l1), some (.int l2), some (.int l3)]) (st' := [.int l3]) (h' := h) (k_67 L) (congrArg Value.ref (r_67_0 L)) rfl ?_
  refine mX_to 1 (k' := 8) (ls' := [some (.ref 67), some (.ref l1), some (.int l2), some (.int l3)]) (st' := [.int 1, .ref 68, .int l3]) (h' := h) rfl ?_
  refine mX_ckv (v := .int (gI h 68 (ix (1 : Int32)))) (v' := .int (gI h 68 1)) (k' := 9) (ls' := [some (.ref 67), some (.ref l1), some (.int l2), some (.int l3)]) (st' := [.int l3]) (h' := h) ((ckA1 (k_68 L) (n_68 L)).mpr (ib_lit (n := 1) rfl (by decide) (by decide))) (congrArg (fun j => Value.int (gI h 68 j)) (ix_lit (n := 1) rfl (by decide))) rfl ?_
  refine mX_br (t := 10) (f := 25) (ls' := [some (.ref 67), some (.ref l1), some (.int l2), some (.int l3)]) (st' := []) (h' := h) rfl ?_ ?_
  · refine mX_to 3 (k' := 13) (ls' := [some (.ref 67), some (.ref l1), some (.int l2), some (.int l3)]) (st' := [.int l3, .ref l1, .int l2]) (h' := h) rfl ?_
    refine mX_ckw (v := .int (gI h l1 (ix l3))) (v' := .int (gI h l1 (ix l3))) (k' := 14) (ls' := [some (.ref 67), some (.ref l1), some (.int l2), some (.int l3)]) (st' := [.int l2]) (h' := h) Iff.rfl rfl rfl fun c1 => ?_
    refine mX_to 1 (k' := 15) (ls' := [some (.ref 67), some (.ref l1), some (.int l2), some (.int l3)]) (st' := [.int 9, .int (gI h l1 (ix l3)), .int l2]) (h' := h) rfl ?_
    refine mX_br (t := 16) (f := 20) (ls' := [some (.ref 67), some (.ref l1), some (.int l2), some (.int l3)]) (st' := [.int l2]) (h' := h) rfl ?_ ?_
    · refine mX_to 4 (k' := 21) (ls' := [some (.ref 67), some (.ref l1), some (.int l2), some (.int l3)]) (st' := [.int (1 <<< (l3 &&& 31)), .int l2]) (h' := h) rfl ?_
      rfl
    · refine mX_to 1 (k' := 21) (ls' := [some (.ref 67), some (.ref l1), some (.int l2), some (.int l3)]) (st' := [.int 0, .int l2]) (h' := h) rfl ?_
      rfl
  · refine mX_to 1 (k' := 26) (ls' := [some (.ref 67), some (.ref l1), some (.int l2), some (.int l3)]) (st' := [.int l2]) (h' := h) rfl ?_
    exact mX_reti rfl
theorem S_X11_standing_21 {h : MH} (L : lay h) (d : Nat) (l1 : Nat) (l2 : Int32) (l3 : Int32) (s0 : Int32) (s1 : Int32) : G_X11_standing_21 d l1 l2 l3 s0 s1 h = G_X11_standing_4 d l1 (s1 ||| s0) (l3 + 1) h := by
  refine mX_to 4 (k' := 4) (ls' := [some (.ref 67), some (.ref l1), some (.int (s1 ||| s0)), some (.int (l3 + 1))]) (st' := []) (h' := h) rfl ?_
  rfl
theorem S_X11_standing {h : MH} (L : lay h) (d : Nat) (a1 : Nat) : F_X11_standing (d + 1) a1 h = G_X11_standing_4 d a1 0 0 h := by
  refine mE_eq (q := (yX11_standing, cX11_standing, 4, (some .int), KX11_standing)) (C := KX11_standing) (ls := [some (.ref 67), some (.ref a1), none, none]) rfl rfl rfl rfl ?_
  refine mX_to 4 (k' := 4) (ls' := [some (.ref 67), some (.ref a1), some (.int 0), some (.int 0)]) (st' := []) (h' := h) rfl ?_
  rfl
theorem S_X11_wageOf_4 {h : MH} (L : lay h) (d : Nat) (l1 : Int32) (l2 : Int32) (l3 : Int32) : G_X11_wageOf_4 d l1 l2 l3 h = (if l3 < (gI h 68 1) then cI (F_X11_has d l1 l3 h) (fun x2 h1 => (if x2 = 0 then G_X11_wageOf_27 d l1 l2 l3 0 l2 h1 else ck (ib ((34 + (2 * l3)) + 1) 1498) (G_X11_wageOf_27 d l1 l2 l3 (gI h1 68 (ix ((34 + (2 * l3)) + 1))) l2 h1))) else some (.int l2, h)) := by
  refine mX_to 2 (k' := 6) (ls' := [some (.ref 67), some (.int l1), some (.int l2), some (.int l3)]) (st' := [.ref 67, .int l3]) (h' := h) rfl ?_
  refine mX_ckv (v := .ref (gR h 67 0)) (v' := .ref 68) (k' := 7) (ls' := [some (.ref 67), some (.int l1), some (.int l2), some (.int l3)]) (st' := [.int l3]) (h' := h) (k_67 L) (congrArg Value.ref (r_67_0 L)) rfl ?_
  refine mX_to 1 (k' := 8) (ls' := [some (.ref 67), some (.int l1), some (.int l2), some (.int l3)]) (st' := [.int 1, .ref 68, .int l3]) (h' := h) rfl ?_
  refine mX_ckv (v := .int (gI h 68 (ix (1 : Int32)))) (v' := .int (gI h 68 1)) (k' := 9) (ls' := [some (.ref 67), some (.int l1), some (.int l2), some (.int l3)]) (st' := [.int l3]) (h' := h) ((ckA1 (k_68 L) (n_68 L)).mpr (ib_lit (n := 1) rfl (by decide) (by decide))) (congrArg (fun j => Value.int (gI h 68 j)) (ix_lit (n := 1) rfl (by decide))) rfl ?_
  refine mX_br (t := 10) (f := 31) (ls' := [some (.ref 67), some (.int l1), some (.int l2), some (.int l3)]) (st' := []) (h' := h) rfl ?_ ?_
  · refine mX_to 3 (k' := 13) (ls' := [some (.ref 67), some (.int l1), some (.int l2), some (.int l3)]) (st' := [.int l3, .int l1, .int l2]) (h' := h) rfl ?_
    refine mX_cIe (o := F_X11_has d l1 l3 h) (k' := 14) (ls' := [some (.ref 67), some (.int l1), some (.int l2), some (.int l3)]) (st' := [.int l2]) rfl ?_
    intro x2 h1 eh1
    have L1 : lay h1 := lay_call d 108 [.int l1, .int l3] h _ h1 rfl eh1 L
    refine mX_br (t := 26) (f := 15) (ls' := [some (.ref 67), some (.int l1), some (.int l2), some (.int l3)]) (st' := [.int l2]) (h' := h1) rfl ?_ ?_
    · refine mX_to 1 (k' := 27) (ls' := [some (.ref 67), some (.int l1), some (.int l2), some (.int l3)]) (st' := [.int 0, .int l2]) (h' := h1) rfl ?_
      rfl
    · refine mX_to 1 (k' := 16) (ls' := [some (.ref 67), some (.int l1), some (.int l2), some (.int l3)]) (st' := [.ref 67, .int l2]) (h' := h1) rfl ?_
      refine mX_ckv (v := .ref (gR h1 67 0)) (v' := .ref 68) (k' := 17) (ls' := [some (.ref 67), some (.int l1), some (.int l2), some (.int l3)]) (st' := [.int l2]) (h' := h1) (k_67 L1) (congrArg Value.ref (r_67_0 L1)) rfl ?_
      refine mX_to 7 (k' := 24) (ls' := [some (.ref 67), some (.int l1), some (.int l2), some (.int l3)]) (st' := [.int ((34 + (2 * l3)) + 1), .ref 68, .int l2]) (h' := h1) rfl ?_
      refine mX_ckw (v := .int (gI h1 68 (ix ((34 + (2 * l3)) + 1)))) (v' := .int (gI h1 68 (ix ((34 + (2 * l3)) + 1)))) (k' := 25) (ls' := [some (.ref 67), some (.int l1), some (.int l2), some (.int l3)]) (st' := [.int l2]) (h' := h1) (ckA1 (k_68 L1) (n_68 L1)) rfl rfl fun c3 => ?_
      refine mX_to 1 (k' := 27) (ls' := [some (.ref 67), some (.int l1), some (.int l2), some (.int l3)]) (st' := [.int (gI h1 68 (ix ((34 + (2 * l3)) + 1))), .int l2]) (h' := h1) rfl ?_
      rfl
  · refine mX_to 1 (k' := 32) (ls' := [some (.ref 67), some (.int l1), some (.int l2), some (.int l3)]) (st' := [.int l2]) (h' := h) rfl ?_
    exact mX_reti rfl
theorem S_X11_wageOf_27 {h : MH} (L : lay h) (d : Nat) (l1 : Int32) (l2 : Int32) (l3 : Int32) (s0 : Int32) (s1 : Int32) : G_X11_wageOf_27 d l1 l2 l3 s0 s1 h = G_X11_wageOf_4 d l1 (s1 + s0) (l3 + 1) h := by
  refine mX_to 4 (k' := 4) (ls' := [some (.ref 67), some (.int l1), some (.int (s1 + s0)), some (.int (l3 + 1))]) (st' := []) (h' := h) rfl ?_
  rfl
theorem S_X11_wageOf {h : MH} (L : lay h) (d : Nat) (a1 : Int32) : F_X11_wageOf (d + 1) a1 h = G_X11_wageOf_4 d a1 0 0 h := by
  refine mE_eq (q := (yX11_wageOf, cX11_wageOf, 4, (some .int), KX11_wageOf)) (C := KX11_wageOf) (ls := [some (.ref 67), some (.int a1), none, none]) rfl rfl rfl rfl ?_
  refine mX_to 4 (k' := 4) (ls' := [some (.ref 67), some (.int a1), some (.int 0), some (.int 0)]) (st' := []) (h' := h) rfl ?_
  rfl
