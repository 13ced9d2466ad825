--deps:19.lay 21.facts 22.00.names
/-! EQUATIONS over the fixed cells (written by wip/gen/sgen.py) -/
theorem S_X11_body {h : MH} (L : lay h) (d : Nat) (a1 : Int32) (a2 : Int32) : F_X11_body (d + 1) a1 a2 h = (if a1 = 2 then cI (F_X11_atPlace d a2 1 9 h) (fun x2 h1 => some (.int x2, h1)) else (if a1 = 3 then cI (F_X11_atPlace d a2 0 3 h) (fun x4 h3 => some (.int x4, h3)) else (if a1 = 4 then cI (F_X11_figure d (a2 + 1) 0 3 h) (fun x6 h5 => some (.int x6, h5)) else (if a1 = 5 then cI (F_X11_figure d (a2 + 1) 0 3 h) (fun x8 h7 => some (.int x8, h7)) else (if a1 = 6 then cI (F_X11_atPlace d a2 1 9 h) (fun x10 h9 => some (.int x10, h9)) else (if a1 = 7 then cI (F_X11_figure d (a2 + 1) 1 60 h) (fun x12 h11 => some (.int x12, h11)) else cI (F_X11_lawClause d a2 h) (fun x14 h13 => some (.int x14, h13)))))))) := by
  refine mE_eq (q := (yX11_body, cX11_body, 3, (some .int), KX11_body)) (C := KX11_body) (ls := [some (.ref 67), some (.int a1), some (.int a2)]) rfl rfl rfl rfl ?_
  refine mX_to 1 (k' := 1) (ls' := [some (.ref 67), some (.int a1), some (.int a2)]) (st' := [.int a1]) (h' := h) rfl ?_
  refine mX_sw (x := a1) (t := 44) (sw := [(2, 2), (3, 8), (4, 14), (5, 22), (6, 30), (7, 36)]) (ls' := [some (.ref 67), some (.int a1), some (.int a2)]) (st' := []) (h' := h) rfl ?_
  refine msw_cons ?_ ?_
  · refine mX_to 4 (k' := 6) (ls' := [some (.ref 67), some (.int a1), some (.int a2)]) (st' := [.int 9, .int 1, .int a2, .ref 67]) (h' := h) rfl ?_
    refine mX_ckct (m := mcl (mE mtab d 110 [.ref 67, .int a2, .int 1, .int 9] h) 1 7 [some (.ref 67), some (.int a1), some (.int a2)] []) (k_67 L) rfl ?_
    refine mk_cIe (o := F_X11_atPlace d a2 1 9 h) ?_
    intro x2 h1 eh1
    have L1 : lay h1 := lay_call d 110 [.ref 67, .int a2, .int 1, .int 9] h _ h1 rfl eh1 L
    exact mX_reti rfl
  refine msw_cons ?_ ?_
  · refine mX_to 4 (k' := 12) (ls' := [some (.ref 67), some (.int a1), some (.int a2)]) (st' := [.int 3, .int 0, .int a2, .ref 67]) (h' := h) rfl ?_
    refine mX_ckct (m := mcl (mE mtab d 110 [.ref 67, .int a2, .int 0, .int 3] h) 1 13 [some (.ref 67), some (.int a1), some (.int a2)] []) (k_67 L) rfl ?_
    refine mk_cIe (o := F_X11_atPlace d a2 0 3 h) ?_
    intro x4 h3 eh3
    have L3 : lay h3 := lay_call d 110 [.ref 67, .int a2, .int 0, .int 3] h _ h3 rfl eh3 L
    exact mX_reti rfl
  refine msw_cons ?_ ?_
  · refine mX_to 6 (k' := 20) (ls' := [some (.ref 67), some (.int a1), some (.int a2)]) (st' := [.int 3, .int 0, .int (a2 + 1), .ref 67]) (h' := h) rfl ?_
    refine mX_ckct (m := mcl (mE mtab d 109 [.ref 67, .int (a2 + 1), .int 0, .int 3] h) 1 21 [some (.ref 67), some (.int a1), some (.int a2)] []) (k_67 L) rfl ?_
    refine mk_cIe (o := F_X11_figure d (a2 + 1) 0 3 h) ?_
    intro x6 h5 eh5
    have L5 : lay h5 := lay_call d 109 [.ref 67, .int (a2 + 1), .int 0, .int 3] h _ h5 rfl eh5 L
    exact mX_reti rfl
  refine msw_cons ?_ ?_
  · refine mX_to 6 (k' := 28) (ls' := [some (.ref 67), some (.int a1), some (.int a2)]) (st' := [.int 3, .int 0, .int (a2 + 1), .ref 67]) (h' := h) rfl ?_
    refine mX_ckct (m := mcl (mE mtab d 109 [.ref 67, .int (a2 + 1), .int 0, .int 3] h) 1 29 [some (.ref 67), some (.int a1), some (.int a2)] []) (k_67 L) rfl ?_
    refine mk_cIe (o := F_X11_figure d (a2 + 1) 0 3 h) ?_
    intro x8 h7 eh7
    have L7 : lay h7 := lay_call d 109 [.ref 67, .int (a2 + 1), .int 0, .int 3] h _ h7 rfl eh7 L
    exact mX_reti rfl
  refine msw_cons ?_ ?_
  · refine mX_to 4 (k' := 34) (ls' := [some (.ref 67), some (.int a1), some (.int a2)]) (st' := [.int 9, .int 1, .int a2, .ref 67]) (h' := h) rfl ?_
    refine mX_ckct (m := mcl (mE mtab d 110 [.ref 67, .int a2, .int 1, .int 9] h) 1 35 [some (.ref 67), some (.int a1), some (.int a2)] []) (k_67 L) rfl ?_
    refine mk_cIe (o := F_X11_atPlace d a2 1 9 h) ?_
    intro x10 h9 eh9
    have L9 : lay h9 := lay_call d 110 [.ref 67, .int a2, .int 1, .int 9] h _ h9 rfl eh9 L
    exact mX_reti rfl
  refine msw_cons ?_ ?_
  · refine mX_to 6 (k' := 42) (ls' := [some (.ref 67), some (.int a1), some (.int a2)]) (st' := [.int 60, .int 1, .int (a2 + 1), .ref 67]) (h' := h) rfl ?_
    refine mX_ckct (m := mcl (mE mtab d 109 [.ref 67, .int (a2 + 1), .int 1, .int 60] h) 1 43 [some (.ref 67), some (.int a1), some (.int a2)] []) (k_67 L) rfl ?_
    refine mk_cIe (o := F_X11_figure d (a2 + 1) 1 60 h) ?_
    intro x12 h11 eh11
    have L11 : lay h11 := lay_call d 109 [.ref 67, .int (a2 + 1), .int 1, .int 60] h _ h11 rfl eh11 L
    exact mX_reti rfl
  refine msw_nil ?_
  refine mX_to 2 (k' := 46) (ls' := [some (.ref 67), some (.int a1), some (.int a2)]) (st' := [.int a2, .ref 67]) (h' := h) rfl ?_
  refine mX_ckct (m := mcl (mE mtab d 126 [.ref 67, .int a2] h) 1 47 [some (.ref 67), some (.int a1), some (.int a2)] []) (k_67 L) rfl ?_
  refine mk_cIe (o := F_X11_lawClause d a2 h) ?_
  intro x14 h13 eh13
  have L13 : lay h13 := lay_call d 126 [.ref 67, .int a2] h _ h13 rfl eh13 L
  exact mX_reti rfl
theorem S_X11_clause_17 {h : MH} (L : lay h) (d : Nat) (l1 : Int32) : G_X11_clause_17 d l1 h = ck (ib (gI h 67 12) 2724) (lt_ (gI h 70 (ix (gI h 67 12))) fun v5 => (if v5 = 24 then some (.int 6, h) else (if l1 ≤ 1 then lt_ (sI h 67 19 ((gI h 67 19) ||| (1 <<< (l1 &&& 31)))) fun h7 => G_X11_clause_39 d l1 v5 h7 else G_X11_clause_39 d l1 v5 h))) := by
  refine mX_to 1 (k' := 18) (ls' := [some (.ref 67), some (.int l1), none, none, none]) (st' := [.ref 67]) (h' := h) rfl ?_
  refine mX_ckv (v := .ref (gR h 67 2)) (v' := .ref 70) (k' := 19) (ls' := [some (.ref 67), some (.int l1), none, none, none]) (st' := []) (h' := h) (k_67 L) (congrArg Value.ref (r_67_2 L)) rfl ?_
  refine mX_to 1 (k' := 20) (ls' := [some (.ref 67), some (.int l1), none, none, none]) (st' := [.ref 67, .ref 70]) (h' := h) rfl ?_
  refine mX_ckv (v := .int (gI h 67 12)) (v' := .int (gI h 67 12)) (k' := 21) (ls' := [some (.ref 67), some (.int l1), none, none, none]) (st' := [.ref 70]) (h' := h) (k_67 L) rfl rfl ?_
  refine mX_ckw (v := .int (gI h 70 (ix (gI h 67 12)))) (v' := .int (gI h 70 (ix (gI h 67 12)))) (k' := 22) (ls' := [some (.ref 67), some (.int l1), none, none, none]) (st' := []) (h' := h) (ckA1 (k_70 L) (n_70 L)) rfl rfl fun c8 => ?_
  refine lt_gen (X := fun v5 : Int32 => mX (mE mtab d) KX11_clause 22 [some (.ref 67), some (.int l1), none, none, none] [.int v5] h) fun v5 => ?_
  refine mX_to 3 (k' := 25) (ls' := [some (.ref 67), some (.int l1), some (.int v5), none, none]) (st' := [.int 24, .int v5]) (h' := h) rfl ?_
  refine mX_br (t := 26) (f := 28) (ls' := [some (.ref 67), some (.int l1), some (.int v5), none, none]) (st' := []) (h' := h) rfl ?_ ?_
  · refine mX_to 1 (k' := 27) (ls' := [some (.ref 67), some (.int l1), some (.int v5), none, none]) (st' := [.int 6]) (h' := h) rfl ?_
    exact mX_reti rfl
  · refine mX_to 2 (k' := 30) (ls' := [some (.ref 67), some (.int l1), some (.int v5), none, none]) (st' := [.int 1, .int l1]) (h' := h) rfl ?_
    refine mX_br (t := 31) (f := 39) (ls' := [some (.ref 67), some (.int l1), some (.int v5), none, none]) (st' := []) (h' := h) rfl ?_ ?_
    · refine mX_to 2 (k' := 33) (ls' := [some (.ref 67), some (.int l1), some (.int v5), none, none]) (st' := [.ref 67, .ref 67]) (h' := h) rfl ?_
      refine mX_ckv (v := .int (gI h 67 19)) (v' := .int (gI h 67 19)) (k' := 34) (ls' := [some (.ref 67), some (.int l1), some (.int v5), none, none]) (st' := [.ref 67]) (h' := h) (k_67 L) rfl rfl ?_
      refine mX_to 4 (k' := 38) (ls' := [some (.ref 67), some (.int l1), some (.int v5), none, none]) (st' := [.int ((gI h 67 19) ||| (1 <<< (l1 &&& 31))), .ref 67]) (h' := h) rfl ?_
      refine mX_ckt (k' := 39) (ls' := [some (.ref 67), some (.int l1), some (.int v5), none, none]) (st' := []) (h' := (sI h 67 19 ((gI h 67 19) ||| (1 <<< (l1 &&& 31))))) (k_67 L) rfl ?_
      refine lt_geq2 (X := fun h7 : MH => mX (mE mtab d) KX11_clause 39 [some (.ref 67), some (.int l1), some (.int v5), none, none] [] h7) (a := (sI h 67 19 ((gI h 67 19) ||| (1 <<< (l1 &&& 31))))) (a' := (sI h 67 19 ((gI h 67 19) ||| (1 <<< (l1 &&& 31))))) rfl fun h7 eh7 => ?_
      have L7 : lay h7 := eh7 ▸ layI L (by decide)
      rfl
    · rfl
theorem S_X11_clause_39 {h : MH} (L : lay h) (d : Nat) (l1 : Int32) (l2 : Int32) : G_X11_clause_39 d l1 l2 h = lt_ (sI h 67 14 l1) fun h10 => cV (F_X11_nextToken d h10) (fun h11 => lt_ (((gI h11 67 12) + 1) + (3 * l2)) fun v12 => ck (ib v12 2724) (lt_ (sI h11 70 (ix v12) l1) fun h14 => cI (F_X11_body d l1 v12 h14) (fun x16 h15 => (if x16 = 0 then ck (ib (gI h15 67 12) 2724) (ck (ib (gI h15 67 12) 2724) (lt_ (sI h15 70 (ix (gI h15 67 12)) ((gI h15 70 (ix (gI h15 67 12))) + 1)) fun h18 => (if (gI h18 67 9) = 59 then cV (F_X11_nextToken d h18) (fun h19 => some (.int 0, h19)) else some (.int 1, h18)))) else some (.int x16, h15))))) := by
  refine mX_to 2 (k' := 41) (ls' := [some (.ref 67), some (.int l1), some (.int l2), none, none]) (st' := [.int l1, .ref 67]) (h' := h) rfl ?_
  refine mX_ckt (k' := 42) (ls' := [some (.ref 67), some (.int l1), some (.int l2), none, none]) (st' := []) (h' := (sI h 67 14 l1)) (k_67 L) rfl ?_
  refine lt_geq2 (X := fun h10 : MH => mX (mE mtab d) KX11_clause 42 [some (.ref 67), some (.int l1), some (.int l2), none, none] [] h10) (a := (sI h 67 14 l1)) (a' := (sI h 67 14 l1)) rfl fun h10 eh10 => ?_
  have L10 : lay h10 := eh10 ▸ layI L (by decide)
  refine mX_to 1 (k' := 43) (ls' := [some (.ref 67), some (.int l1), some (.int l2), none, none]) (st' := [.ref 67]) (h' := h10) rfl ?_
  refine mX_ckct (m := mcl (mE mtab d 100 [.ref 67] h10) 0 44 [some (.ref 67), some (.int l1), some (.int l2), none, none] []) (k_67 L10) rfl ?_
  refine mk_cVe (o := F_X11_nextToken d h10) ?_
  intro wh11 h11 eh11
  have L11 : lay h11 := lay_call d 100 [.ref 67] h10 _ h11 rfl eh11 L10
  refine mX_to 1 (k' := 45) (ls' := [some (.ref 67), some (.int l1), some (.int l2), none, none]) (st' := [.ref 67]) (h' := h11) rfl ?_
  refine mX_ckv (v := .int (gI h11 67 12)) (v' := .int (gI h11 67 12)) (k' := 46) (ls' := [some (.ref 67), some (.int l1), some (.int l2), none, none]) (st' := []) (h' := h11) (k_67 L11) rfl rfl ?_
  refine mX_to 6 (k' := 52) (ls' := [some (.ref 67), some (.int l1), some (.int l2), none, none]) (st' := [.int (((gI h11 67 12) + 1) + (3 * l2))]) (h' := h11) rfl ?_
  refine lt_gen (X := fun v12 : Int32 => mX (mE mtab d) KX11_clause 52 [some (.ref 67), some (.int l1), some (.int l2), none, none] [.int v12] h11) fun v12 => ?_
  refine mX_to 2 (k' := 54) (ls' := [some (.ref 67), some (.int l1), some (.int l2), some (.int v12), none]) (st' := [.ref 67]) (h' := h11) rfl ?_
  refine mX_ckv (v := .ref (gR h11 67 2)) (v' := .ref 70) (k' := 55) (ls' := [some (.ref 67), some (.int l1), some (.int l2), some (.int v12), none]) (st' := []) (h' := h11) (k_67 L11) (congrArg Value.ref (r_67_2 L11)) rfl ?_
  refine mX_to 2 (k' := 57) (ls' := [some (.ref 67), some (.int l1), some (.int l2), some (.int v12), none]) (st' := [.int l1, .int v12, .ref 70]) (h' := h11) rfl ?_
  refine mX_cki (k' := 58) (ls' := [some (.ref 67), some (.int l1), some (.int l2), some (.int v12), none]) (st' := []) (h' := (sI h11 70 (ix v12) l1)) (ckA0 (k_70 L11) (n_70 L11)) rfl fun c13 => ?_
  refine lt_geq2 (X := fun h14 : MH => mX (mE mtab d) KX11_clause 58 [some (.ref 67), some (.int l1), some (.int l2), some (.int v12), none] [] h14) (a := (sI h11 70 (ix v12) l1)) (a' := (sI h11 70 (ix v12) l1)) rfl fun h14 eh14 => ?_
  have L14 : lay h14 := eh14 ▸ layI L11 (by decide)
  refine mX_to 3 (k' := 61) (ls' := [some (.ref 67), some (.int l1), some (.int l2), some (.int v12), none]) (st' := [.int v12, .int l1, .ref 67]) (h' := h14) rfl ?_
  refine mX_ckct (m := mcl (mE mtab d 127 [.ref 67, .int l1, .int v12] h14) 1 62 [some (.ref 67), some (.int l1), some (.int l2), some (.int v12), none] []) (k_67 L14) rfl ?_
  refine mk_cIe (o := F_X11_body d l1 v12 h14) ?_
  intro x16 h15 eh15
  have L15 : lay h15 := lay_call d 127 [.ref 67, .int l1, .int v12] h14 _ h15 rfl eh15 L14
  refine mX_to 2 (k' := 64) (ls' := [some (.ref 67), some (.int l1), some (.int l2), some (.int v12), some (.int x16)]) (st' := [.int x16]) (h' := h15) rfl ?_
  refine mX_br (t := 67) (f := 65) (ls' := [some (.ref 67), some (.int l1), some (.int l2), some (.int v12), some (.int x16)]) (st' := []) (h' := h15) rfl ?_ ?_
  · refine mX_to 1 (k' := 68) (ls' := [some (.ref 67), some (.int l1), some (.int l2), some (.int v12), some (.int x16)]) (st' := [.ref 67]) (h' := h15) rfl ?_
    refine mX_ckv (v := .ref (gR h15 67 2)) (v' := .ref 70) (k' := 69) (ls' := [some (.ref 67), some (.int l1), some (.int l2), some (.int v12), some (.int x16)]) (st' := []) (h' := h15) (k_67 L15) (congrArg Value.ref (r_67_2 L15)) rfl ?_
    refine mX_to 1 (k' := 70) (ls' := [some (.ref 67), some (.int l1), some (.int l2), some (.int v12), some (.int x16)]) (st' := [.ref 67, .ref 70]) (h' := h15) rfl ?_
    refine mX_ckv (v := .int (gI h15 67 12)) (v' := .int (gI h15 67 12)) (k' := 71) (ls' := [some (.ref 67), some (.int l1), some (.int l2), some (.int v12), some (.int x16)]) (st' := [.ref 70]) (h' := h15) (k_67 L15) rfl rfl ?_
    refine mX_to 1 (k' := 72) (ls' := [some (.ref 67), some (.int l1), some (.int l2), some (.int v12), some (.int x16)]) (st' := [.int (gI h15 67 12), .ref 70, .int (gI h15 67 12), .ref 70]) (h' := h15) rfl ?_
    refine mX_ckw (v := .int (gI h15 70 (ix (gI h15 67 12)))) (v' := .int (gI h15 70 (ix (gI h15 67 12)))) (k' := 73) (ls' := [some (.ref 67), some (.int l1), some (.int l2), some (.int v12), some (.int x16)]) (st' := [.int (gI h15 67 12), .ref 70]) (h' := h15) (ckA1 (k_70 L15) (n_70 L15)) rfl rfl fun c20 => ?_
    refine mX_to 2 (k' := 75) (ls' := [some (.ref 67), some (.int l1), some (.int l2), some (.int v12), some (.int x16)]) (st' := [.int ((gI h15 70 (ix (gI h15 67 12))) + 1), .int (gI h15 67 12), .ref 70]) (h' := h15) rfl ?_
    refine mX_cki (k' := 76) (ls' := [some (.ref 67), some (.int l1), some (.int l2), some (.int v12), some (.int x16)]) (st' := []) (h' := (sI h15 70 (ix (gI h15 67 12)) ((gI h15 70 (ix (gI h15 67 12))) + 1))) (ckA0 (k_70 L15) (n_70 L15)) rfl fun c17 => ?_
    refine lt_geq2 (X := fun h18 : MH => mX (mE mtab d) KX11_clause 76 [some (.ref 67), some (.int l1), some (.int l2), some (.int v12), some (.int x16)] [] h18) (a := (sI h15 70 (ix (gI h15 67 12)) ((gI h15 70 (ix (gI h15 67 12))) + 1))) (a' := (sI h15 70 (ix (gI h15 67 12)) ((gI h15 70 (ix (gI h15 67 12))) + 1))) rfl fun h18 eh18 => ?_
    have L18 : lay h18 := eh18 ▸ layI L15 (by decide)
    refine mX_to 1 (k' := 77) (ls' := [some (.ref 67), some (.int l1), some (.int l2), some (.int v12), some (.int x16)]) (st' := [.ref 67]) (h' := h18) rfl ?_
    refine mX_ckv (v := .int (gI h18 67 9)) (v' := .int (gI h18 67 9)) (k' := 78) (ls' := [some (.ref 67), some (.int l1), some (.int l2), some (.int v12), some (.int x16)]) (st' := []) (h' := h18) (k_67 L18) rfl rfl ?_
    refine mX_to 1 (k' := 79) (ls' := [some (.ref 67), some (.int l1), some (.int l2), some (.int v12), some (.int x16)]) (st' := [.int 59, .int (gI h18 67 9)]) (h' := h18) rfl ?_
    refine mX_br (t := 82) (f := 80) (ls' := [some (.ref 67), some (.int l1), some (.int l2), some (.int v12), some (.int x16)]) (st' := []) (h' := h18) rfl ?_ ?_
    · refine mX_to 1 (k' := 83) (ls' := [some (.ref 67), some (.int l1), some (.int l2), some (.int v12), some (.int x16)]) (st' := [.ref 67]) (h' := h18) rfl ?_
      refine mX_ckct (m := mcl (mE mtab d 100 [.ref 67] h18) 0 84 [some (.ref 67), some (.int l1), some (.int l2), some (.int v12), some (.int x16)] []) (k_67 L18) rfl ?_
      refine mk_cVe (o := F_X11_nextToken d h18) ?_
      intro wh19 h19 eh19
      have L19 : lay h19 := lay_call d 100 [.ref 67] h18 _ h19 rfl eh19 L18
      refine mX_to 1 (k' := 85) (ls' := [some (.ref 67), some (.int l1), some (.int l2), some (.int v12), some (.int x16)]) (st' := [.int 0]) (h' := h19) rfl ?_
      exact mX_reti rfl
    · refine mX_to 1 (k' := 81) (ls' := [some (.ref 67), some (.int l1), some (.int l2), some (.int v12), some (.int x16)]) (st' := [.int 1]) (h' := h18) rfl ?_
      exact mX_reti rfl
  · refine mX_to 1 (k' := 66) (ls' := [some (.ref 67), some (.int l1), some (.int l2), some (.int v12), some (.int x16)]) (st' := [.int x16]) (h' := h15) rfl ?_
    exact mX_reti rfl
theorem S_X11_clause {h : MH} (L : lay h) (d : Nat) : F_X11_clause (d + 1) h = cI (F_X11_sortOf d h) (fun x2 h1 => (if x2 < 0 then some (.int 1, h1) else (if x2 ≤ 1 then cI (F_X11_has d (gI h1 67 19) x2 h1) (fun x4 h3 => (if x4 = 0 then G_X11_clause_17 d x2 h3 else some (.int 4, h3))) else G_X11_clause_17 d x2 h1))) := by
  refine mE_eq (q := (yX11_clause, cX11_clause, 5, (some .int), KX11_clause)) (C := KX11_clause) (ls := [some (.ref 67), none, none, none, none]) rfl rfl rfl rfl ?_
  refine mX_to 1 (k' := 1) (ls' := [some (.ref 67), none, none, none, none]) (st' := [.ref 67]) (h' := h) rfl ?_
  refine mX_ckct (m := mcl (mE mtab d 107 [.ref 67] h) 1 2 [some (.ref 67), none, none, none, none] []) (k_67 L) rfl ?_
  refine mk_cIe (o := F_X11_sortOf d h) ?_
  intro x2 h1 eh1
  have L1 : lay h1 := lay_call d 107 [.ref 67] h _ h1 rfl eh1 L
  refine mX_to 2 (k' := 4) (ls' := [some (.ref 67), some (.int x2), none, none, none]) (st' := [.int x2]) (h' := h1) rfl ?_
  refine mX_br (t := 5) (f := 7) (ls' := [some (.ref 67), some (.int x2), none, none, none]) (st' := []) (h' := h1) rfl ?_ ?_
  · refine mX_to 1 (k' := 6) (ls' := [some (.ref 67), some (.int x2), none, none, none]) (st' := [.int 1]) (h' := h1) rfl ?_
    exact mX_reti rfl
  · refine mX_to 2 (k' := 9) (ls' := [some (.ref 67), some (.int x2), none, none, none]) (st' := [.int 1, .int x2]) (h' := h1) rfl ?_
    refine mX_br (t := 10) (f := 17) (ls' := [some (.ref 67), some (.int x2), none, none, none]) (st' := []) (h' := h1) rfl ?_ ?_
    · refine mX_to 1 (k' := 11) (ls' := [some (.ref 67), some (.int x2), none, none, none]) (st' := [.ref 67]) (h' := h1) rfl ?_
      refine mX_ckv (v := .int (gI h1 67 19)) (v' := .int (gI h1 67 19)) (k' := 12) (ls' := [some (.ref 67), some (.int x2), none, none, none]) (st' := []) (h' := h1) (k_67 L1) rfl rfl ?_
      refine mX_to 1 (k' := 13) (ls' := [some (.ref 67), some (.int x2), none, none, none]) (st' := [.int x2, .int (gI h1 67 19)]) (h' := h1) rfl ?_
      refine mX_cIe (o := F_X11_has d (gI h1 67 19) x2 h1) (k' := 14) (ls' := [some (.ref 67), some (.int x2), none, none, none]) (st' := []) rfl ?_
      intro x4 h3 eh3
      have L3 : lay h3 := lay_call d 108 [.int (gI h1 67 19), .int x2] h1 _ h3 rfl eh3 L1
      refine mX_br (t := 17) (f := 15) (ls' := [some (.ref 67), some (.int x2), none, none, none]) (st' := []) (h' := h3) rfl ?_ ?_
      · rfl
      · refine mX_to 1 (k' := 16) (ls' := [some (.ref 67), some (.int x2), none, none, none]) (st' := [.int 4]) (h' := h3) rfl ?_
        exact mX_reti rfl
    · rfl
theorem S_X11_readText_25 {h : MH} (L : lay h) (d : Nat) (o1 : Option Value) : G_X11_readText_25 d o1 h = (if (gI h 67 9) = 0 then some (.int 0, h) else cI (F_X11_clause d h) (fun x13 h12 => (if x13 = 0 then G_X11_readText_25 d (some (.int x13)) h12 else some (.int x13, h12)))) := by
  refine mX_to 1 (k' := 26) (ls' := [some (.ref 67), o1]) (st' := [.ref 67]) (h' := h) rfl ?_
  refine mX_ckv (v := .int (gI h 67 9)) (v' := .int (gI h 67 9)) (k' := 27) (ls' := [some (.ref 67), o1]) (st' := []) (h' := h) (k_67 L) rfl rfl ?_
  refine mX_br (t := 36) (f := 28) (ls' := [some (.ref 67), o1]) (st' := []) (h' := h) rfl ?_ ?_
  · refine mX_to 1 (k' := 37) (ls' := [some (.ref 67), o1]) (st' := [.int 0]) (h' := h) rfl ?_
    exact mX_reti rfl
  · refine mX_to 1 (k' := 29) (ls' := [some (.ref 67), o1]) (st' := [.ref 67]) (h' := h) rfl ?_
    refine mX_ckct (m := mcl (mE mtab d 128 [.ref 67] h) 1 30 [some (.ref 67), o1] []) (k_67 L) rfl ?_
    refine mk_cIe (o := F_X11_clause d h) ?_
    intro x13 h12 eh12
    have L12 : lay h12 := lay_call d 128 [.ref 67] h _ h12 rfl eh12 L
    refine mX_to 2 (k' := 32) (ls' := [some (.ref 67), some (.int x13)]) (st' := [.int x13]) (h' := h12) rfl ?_
    refine mX_br (t := 35) (f := 33) (ls' := [some (.ref 67), some (.int x13)]) (st' := []) (h' := h12) rfl ?_ ?_
    · refine mX_to 1 (k' := 25) (ls' := [some (.ref 67), some (.int x13)]) (st' := []) (h' := h12) rfl ?_
      rfl
    · refine mX_to 1 (k' := 34) (ls' := [some (.ref 67), some (.int x13)]) (st' := [.int x13]) (h' := h12) rfl ?_
      exact mX_reti rfl
theorem S_X11_readText {h : MH} (L : lay h) (d : Nat) : F_X11_readText (d + 1) h = lt_ (sI h 67 12 (681 * (gI h 68 2))) fun h2 => ck (ib (gI h2 67 12) 2724) (lt_ (sI h2 70 (ix (gI h2 67 12)) 0) fun h4 => lt_ (sI h4 67 13 0) fun h6 => lt_ (sI h6 67 19 0) fun h8 => lt_ (sI h8 67 7 0) fun h10 => cV (F_X11_nextToken d h10) (fun h11 => G_X11_readText_25 d none h11)) := by
  refine mE_eq (q := (yX11_readText, cX11_readText, 2, (some .int), KX11_readText)) (C := KX11_readText) (ls := [some (.ref 67), none]) rfl rfl rfl rfl ?_
  refine mX_to 3 (k' := 3) (ls' := [some (.ref 67), none]) (st' := [.ref 67, .int 681, .ref 67]) (h' := h) rfl ?_
  refine mX_ckv (v := .ref (gR h 67 0)) (v' := .ref 68) (k' := 4) (ls' := [some (.ref 67), none]) (st' := [.int 681, .ref 67]) (h' := h) (k_67 L) (congrArg Value.ref (r_67_0 L)) rfl ?_
  refine mX_to 1 (k' := 5) (ls' := [some (.ref 67), none]) (st' := [.int 2, .ref 68, .int 681, .ref 67]) (h' := h) rfl ?_
  refine mX_ckv (v := .int (gI h 68 (ix (2 : Int32)))) (v' := .int (gI h 68 2)) (k' := 6) (ls' := [some (.ref 67), none]) (st' := [.int 681, .ref 67]) (h' := h) ((ckA1 (k_68 L) (n_68 L)).mpr (ib_lit (n := 2) rfl (by decide) (by decide))) (congrArg (fun j => Value.int (gI h 68 j)) (ix_lit (n := 2) rfl (by decide))) rfl ?_
  refine mX_to 1 (k' := 7) (ls' := [some (.ref 67), none]) (st' := [.int (681 * (gI h 68 2)), .ref 67]) (h' := h) rfl ?_
  refine mX_ckt (k' := 8) (ls' := [some (.ref 67), none]) (st' := []) (h' := (sI h 67 12 (681 * (gI h 68 2)))) (k_67 L) rfl ?_
  refine lt_geq2 (X := fun h2 : MH => mX (mE mtab d) KX11_readText 8 [some (.ref 67), none] [] h2) (a := (sI h 67 12 (681 * (gI h 68 2)))) (a' := (sI h 67 12 (681 * (gI h 68 2)))) rfl fun h2 eh2 => ?_
  have L2 : lay h2 := eh2 ▸ layI L (by decide)
  refine mX_to 1 (k' := 9) (ls' := [some (.ref 67), none]) (st' := [.ref 67]) (h' := h2) rfl ?_
  refine mX_ckv (v := .ref (gR h2 67 2)) (v' := .ref 70) (k' := 10) (ls' := [some (.ref 67), none]) (st' := []) (h' := h2) (k_67 L2) (congrArg Value.ref (r_67_2 L2)) rfl ?_
  refine mX_to 1 (k' := 11) (ls' := [some (.ref 67), none]) (st' := [.ref 67, .ref 70]) (h' := h2) rfl ?_
  refine mX_ckv (v := .int (gI h2 67 12)) (v' := .int (gI h2 67 12)) (k' := 12) (ls' := [some (.ref 67), none]) (st' := [.ref 70]) (h' := h2) (k_67 L2) rfl rfl ?_
  refine mX_to 1 (k' := 13) (ls' := [some (.ref 67), none]) (st' := [.int 0, .int (gI h2 67 12), .ref 70]) (h' := h2) rfl ?_
  refine mX_cki (k' := 14) (ls' := [some (.ref 67), none]) (st' := []) (h' := (sI h2 70 (ix (gI h2 67 12)) 0)) (ckA0 (k_70 L2) (n_70 L2)) rfl fun c3 => ?_
  refine lt_geq2 (X := fun h4 : MH => mX (mE mtab d) KX11_readText 14 [some (.ref 67), none] [] h4) (a := (sI h2 70 (ix (gI h2 67 12)) 0)) (a' := (sI h2 70 (ix (gI h2 67 12)) 0)) rfl fun h4 eh4 => ?_
  have L4 : lay h4 := eh4 ▸ layI L2 (by decide)
  refine mX_to 2 (k' := 16) (ls' := [some (.ref 67), none]) (st' := [.int 0, .ref 67]) (h' := h4) rfl ?_
  refine mX_ckt (k' := 17) (ls' := [some (.ref 67), none]) (st' := []) (h' := (sI h4 67 13 0)) (k_67 L4) rfl ?_
  refine lt_geq2 (X := fun h6 : MH => mX (mE mtab d) KX11_readText 17 [some (.ref 67), none] [] h6) (a := (sI h4 67 13 0)) (a' := (sI h4 67 13 0)) rfl fun h6 eh6 => ?_
  have L6 : lay h6 := eh6 ▸ layI L4 (by decide)
  refine mX_to 2 (k' := 19) (ls' := [some (.ref 67), none]) (st' := [.int 0, .ref 67]) (h' := h6) rfl ?_
  refine mX_ckt (k' := 20) (ls' := [some (.ref 67), none]) (st' := []) (h' := (sI h6 67 19 0)) (k_67 L6) rfl ?_
  refine lt_geq2 (X := fun h8 : MH => mX (mE mtab d) KX11_readText 20 [some (.ref 67), none] [] h8) (a := (sI h6 67 19 0)) (a' := (sI h6 67 19 0)) rfl fun h8 eh8 => ?_
  have L8 : lay h8 := eh8 ▸ layI L6 (by decide)
  refine mX_to 2 (k' := 22) (ls' := [some (.ref 67), none]) (st' := [.int 0, .ref 67]) (h' := h8) rfl ?_
  refine mX_ckt (k' := 23) (ls' := [some (.ref 67), none]) (st' := []) (h' := (sI h8 67 7 0)) (k_67 L8) rfl ?_
  refine lt_geq2 (X := fun h10 : MH => mX (mE mtab d) KX11_readText 23 [some (.ref 67), none] [] h10) (a := (sI h8 67 7 0)) (a' := (sI h8 67 7 0)) rfl fun h10 eh10 => ?_
  have L10 : lay h10 := eh10 ▸ layI L8 (by decide)
  refine mX_to 1 (k' := 24) (ls' := [some (.ref 67), none]) (st' := [.ref 67]) (h' := h10) rfl ?_
  refine mX_ckct (m := mcl (mE mtab d 100 [.ref 67] h10) 0 25 [some (.ref 67), none] []) (k_67 L10) rfl ?_
  refine mk_cVe (o := F_X11_nextToken d h10) ?_
  intro wh11 h11 eh11
  have L11 : lay h11 := lay_call d 100 [.ref 67] h10 _ h11 rfl eh11 L10
  rfl
theorem S_X11_text_20 {h : MH} (L : lay h) (d : Nat) (s0 : Int32) : G_X11_text_20 d s0 h = lt_ (sI h 67 6 s0) fun h6 => lt_ (sI h6 67 4 0) fun h8 => (if (gI h8 67 5) = 0 then lt_ (sI h8 68 2 ((gI h8 68 2) + 1)) fun h10 => some (.int ((gI h10 68 2) - 1), h10) else some (.int (-1), h8)) := by
  refine mX_ckt (k' := 21) (ls' := [some (.ref 67)]) (st' := []) (h' := (sI h 67 6 s0)) (k_67 L) rfl ?_
  refine lt_geq2 (X := fun h6 : MH => mX (mE mtab d) KX11_text 21 [some (.ref 67)] [] h6) (a := (sI h 67 6 s0)) (a' := (sI h 67 6 s0)) rfl fun h6 eh6 => ?_
  have L6 : lay h6 := eh6 ▸ layI L (by decide)
  refine mX_to 2 (k' := 23) (ls' := [some (.ref 67)]) (st' := [.int 0, .ref 67]) (h' := h6) rfl ?_
  refine mX_ckt (k' := 24) (ls' := [some (.ref 67)]) (st' := []) (h' := (sI h6 67 4 0)) (k_67 L6) rfl ?_
  refine lt_geq2 (X := fun h8 : MH => mX (mE mtab d) KX11_text 24 [some (.ref 67)] [] h8) (a := (sI h6 67 4 0)) (a' := (sI h6 67 4 0)) rfl fun h8 eh8 => ?_
  have L8 : lay h8 := eh8 ▸ layI L6 (by decide)
  refine mX_to 1 (k' := 25) (ls' := [some (.ref 67)]) (st' := [.ref 67]) (h' := h8) rfl ?_
  refine mX_ckv (v := .int (gI h8 67 5)) (v' := .int (gI h8 67 5)) (k' := 26) (ls' := [some (.ref 67)]) (st' := []) (h' := h8) (k_67 L8) rfl rfl ?_
  refine mX_br (t := 29) (f := 27) (ls' := [some (.ref 67)]) (st' := []) (h' := h8) rfl ?_ ?_
  · refine mX_to 1 (k' := 30) (ls' := [some (.ref 67)]) (st' := [.ref 67]) (h' := h8) rfl ?_
    refine mX_ckv (v := .ref (gR h8 67 0)) (v' := .ref 68) (k' := 31) (ls' := [some (.ref 67)]) (st' := []) (h' := h8) (k_67 L8) (congrArg Value.ref (r_67_0 L8)) rfl ?_
    refine mX_to 2 (k' := 33) (ls' := [some (.ref 67)]) (st' := [.int 2, .ref 68, .int 2, .ref 68]) (h' := h8) rfl ?_
    refine mX_ckv (v := .int (gI h8 68 (ix (2 : Int32)))) (v' := .int (gI h8 68 2)) (k' := 34) (ls' := [some (.ref 67)]) (st' := [.int 2, .ref 68]) (h' := h8) ((ckA1 (k_68 L8) (n_68 L8)).mpr (ib_lit (n := 2) rfl (by decide) (by decide))) (congrArg (fun j => Value.int (gI h8 68 j)) (ix_lit (n := 2) rfl (by decide))) rfl ?_
    refine mX_to 2 (k' := 36) (ls' := [some (.ref 67)]) (st' := [.int ((gI h8 68 2) + 1), .int 2, .ref 68]) (h' := h8) rfl ?_
    refine mX_ckt (k' := 37) (ls' := [some (.ref 67)]) (st' := []) (h' := (sI h8 68 (ix (2 : Int32)) ((gI h8 68 2) + 1))) ((ckA0 (k_68 L8) (n_68 L8)).mpr (ib_lit (n := 2) rfl (by decide) (by decide))) rfl ?_
    refine lt_geq2 (X := fun h10 : MH => mX (mE mtab d) KX11_text 37 [some (.ref 67)] [] h10) (a := (sI h8 68 (ix (2 : Int32)) ((gI h8 68 2) + 1))) (a' := (sI h8 68 2 ((gI h8 68 2) + 1))) (congrArg (fun j => sI h8 68 j ((gI h8 68 2) + 1)) (ix_lit (n := 2) rfl (by decide))) fun h10 eh10 => ?_
    have L10 : lay h10 := eh10 ▸ layI L8 (by decide)
    refine mX_to 1 (k' := 38) (ls' := [some (.ref 67)]) (st' := [.ref 67]) (h' := h10) rfl ?_
    refine mX_ckv (v := .ref (gR h10 67 0)) (v' := .ref 68) (k' := 39) (ls' := [some (.ref 67)]) (st' := []) (h' := h10) (k_67 L10) (congrArg Value.ref (r_67_0 L10)) rfl ?_
    refine mX_to 1 (k' := 40) (ls' := [some (.ref 67)]) (st' := [.int 2, .ref 68]) (h' := h10) rfl ?_
    refine mX_ckv (v := .int (gI h10 68 (ix (2 : Int32)))) (v' := .int (gI h10 68 2)) (k' := 41) (ls' := [some (.ref 67)]) (st' := []) (h' := h10) ((ckA1 (k_68 L10) (n_68 L10)).mpr (ib_lit (n := 2) rfl (by decide) (by decide))) (congrArg (fun j => Value.int (gI h10 68 j)) (ix_lit (n := 2) rfl (by decide))) rfl ?_
    refine mX_to 2 (k' := 43) (ls' := [some (.ref 67)]) (st' := [.int ((gI h10 68 2) - 1)]) (h' := h10) rfl ?_
    exact mX_reti rfl
  · refine mX_to 1 (k' := 28) (ls' := [some (.ref 67)]) (st' := [.int (-1)]) (h' := h8) rfl ?_
    exact mX_reti rfl
theorem S_X11_text {h : MH} (L : lay h) (d : Nat) : F_X11_text (d + 1) h = (if (gI h 68 2) = 4 then some (.int (-1), h) else cI (F_X11_readText d h) (fun x2 h1 => lt_ (sI h1 67 5 x2) fun h4 => (if (gI h4 67 5) = 0 then G_X11_text_20 d (-1) h4 else G_X11_text_20 d (gI h4 67 8) h4))) := by
  refine mE_eq (q := (yX11_text, cX11_text, 1, (some .int), KX11_text)) (C := KX11_text) (ls := [some (.ref 67)]) rfl rfl rfl rfl ?_
  refine mX_to 1 (k' := 1) (ls' := [some (.ref 67)]) (st' := [.ref 67]) (h' := h) rfl ?_
  refine mX_ckv (v := .ref (gR h 67 0)) (v' := .ref 68) (k' := 2) (ls' := [some (.ref 67)]) (st' := []) (h' := h) (k_67 L) (congrArg Value.ref (r_67_0 L)) rfl ?_
  refine mX_to 1 (k' := 3) (ls' := [some (.ref 67)]) (st' := [.int 2, .ref 68]) (h' := h) rfl ?_
  refine mX_ckv (v := .int (gI h 68 (ix (2 : Int32)))) (v' := .int (gI h 68 2)) (k' := 4) (ls' := [some (.ref 67)]) (st' := []) (h' := h) ((ckA1 (k_68 L) (n_68 L)).mpr (ib_lit (n := 2) rfl (by decide) (by decide))) (congrArg (fun j => Value.int (gI h 68 j)) (ix_lit (n := 2) rfl (by decide))) rfl ?_
  refine mX_to 1 (k' := 5) (ls' := [some (.ref 67)]) (st' := [.int 4, .int (gI h 68 2)]) (h' := h) rfl ?_
  refine mX_br (t := 6) (f := 8) (ls' := [some (.ref 67)]) (st' := []) (h' := h) rfl ?_ ?_
  · refine mX_to 1 (k' := 7) (ls' := [some (.ref 67)]) (st' := [.int (-1)]) (h' := h) rfl ?_
    exact mX_reti rfl
  · refine mX_to 2 (k' := 10) (ls' := [some (.ref 67)]) (st' := [.ref 67, .ref 67]) (h' := h) rfl ?_
    refine mX_ckct (m := mcl (mE mtab d 129 [.ref 67] h) 1 11 [some (.ref 67)] [.ref 67]) (k_67 L) rfl ?_
    refine mk_cIe (o := F_X11_readText d h) ?_
    intro x2 h1 eh1
    have L1 : lay h1 := lay_call d 129 [.ref 67] h _ h1 rfl eh1 L
    refine mX_ckt (k' := 12) (ls' := [some (.ref 67)]) (st' := []) (h' := (sI h1 67 5 x2)) (k_67 L1) rfl ?_
    refine lt_geq2 (X := fun h4 : MH => mX (mE mtab d) KX11_text 12 [some (.ref 67)] [] h4) (a := (sI h1 67 5 x2)) (a' := (sI h1 67 5 x2)) rfl fun h4 eh4 => ?_
    have L4 : lay h4 := eh4 ▸ layI L1 (by decide)
    refine mX_to 2 (k' := 14) (ls' := [some (.ref 67)]) (st' := [.ref 67, .ref 67]) (h' := h4) rfl ?_
    refine mX_ckv (v := .int (gI h4 67 5)) (v' := .int (gI h4 67 5)) (k' := 15) (ls' := [some (.ref 67)]) (st' := [.ref 67]) (h' := h4) (k_67 L4) rfl rfl ?_
    refine mX_br (t := 16) (f := 18) (ls' := [some (.ref 67)]) (st' := [.ref 67]) (h' := h4) rfl ?_ ?_
    · refine mX_to 2 (k' := 20) (ls' := [some (.ref 67)]) (st' := [.int (-1), .ref 67]) (h' := h4) rfl ?_
      rfl
    · refine mX_to 1 (k' := 19) (ls' := [some (.ref 67)]) (st' := [.ref 67, .ref 67]) (h' := h4) rfl ?_
      refine mX_ckv (v := .int (gI h4 67 8)) (v' := .int (gI h4 67 8)) (k' := 20) (ls' := [some (.ref 67)]) (st' := [.ref 67]) (h' := h4) (k_67 L4) rfl rfl ?_
      rfl
theorem S_X10_fault {h : MH} (L : lay h) (d : Nat) (a1 : Int32) : F_X10_fault (d + 1) a1 h = (if a1 = 0 then some (.int (gI h 55 11), h) else (if a1 = 1 then some (.int (gI h 55 12), h) else some (.int (-1), h))) := by
  refine mE_eq (q := (yX10_fault, cX10_fault, 2, (some .int), KX10_fault)) (C := KX10_fault) (ls := [some (.ref 8), some (.int a1)]) rfl rfl rfl rfl ?_
  refine mX_to 1 (k' := 1) (ls' := [some (.ref 8), some (.int a1)]) (st' := [.int a1]) (h' := h) rfl ?_
  refine mX_br (t := 2) (f := 6) (ls' := [some (.ref 8), some (.int a1)]) (st' := []) (h' := h) rfl ?_ ?_
  · refine mX_to 1 (k' := 3) (ls' := [some (.ref 8), some (.int a1)]) (st' := [.ref 8]) (h' := h) rfl ?_
    refine mX_ckv (v := .ref (gR h 8 4)) (v' := .ref 55) (k' := 4) (ls' := [some (.ref 8), some (.int a1)]) (st' := []) (h' := h) (k_8 L) (congrArg Value.ref (r_8_4 L)) rfl ?_
    refine mX_ckv (v := .int (gI h 55 11)) (v' := .int (gI h 55 11)) (k' := 5) (ls' := [some (.ref 8), some (.int a1)]) (st' := []) (h' := h) (k_55 L) rfl rfl ?_
    exact mX_reti rfl
  · refine mX_to 2 (k' := 8) (ls' := [some (.ref 8), some (.int a1)]) (st' := [.int 1, .int a1]) (h' := h) rfl ?_
    refine mX_br (t := 9) (f := 13) (ls' := [some (.ref 8), some (.int a1)]) (st' := []) (h' := h) rfl ?_ ?_
    · refine mX_to 1 (k' := 10) (ls' := [some (.ref 8), some (.int a1)]) (st' := [.ref 8]) (h' := h) rfl ?_
      refine mX_ckv (v := .ref (gR h 8 4)) (v' := .ref 55) (k' := 11) (ls' := [some (.ref 8), some (.int a1)]) (st' := []) (h' := h) (k_8 L) (congrArg Value.ref (r_8_4 L)) rfl ?_
      refine mX_ckv (v := .int (gI h 55 12)) (v' := .int (gI h 55 12)) (k' := 12) (ls' := [some (.ref 8), some (.int a1)]) (st' := []) (h' := h) (k_55 L) rfl rfl ?_
      refine mX_to 1 (k' := 14) (ls' := [some (.ref 8), some (.int a1)]) (st' := [.int (gI h 55 12)]) (h' := h) rfl ?_
      exact mX_reti rfl
    · refine mX_to 1 (k' := 14) (ls' := [some (.ref 8), some (.int a1)]) (st' := [.int (-1)]) (h' := h) rfl ?_
      exact mX_reti rfl
theorem S_X11_fault {h : MH} (L : lay h) (d : Nat) (a1 : Int32) : F_X11_fault (d + 1) a1 h = (if a1 = 0 then some (.int (gI h 67 5), h) else (if a1 = 1 then some (.int (gI h 67 6), h) else some (.int (-1), h))) := by
  refine mE_eq (q := (yX11_fault, cX11_fault, 2, (some .int), KX11_fault)) (C := KX11_fault) (ls := [some (.ref 67), some (.int a1)]) rfl rfl rfl rfl ?_
  refine mX_to 1 (k' := 1) (ls' := [some (.ref 67), some (.int a1)]) (st' := [.int a1]) (h' := h) rfl ?_
  refine mX_br (t := 2) (f := 5) (ls' := [some (.ref 67), some (.int a1)]) (st' := []) (h' := h) rfl ?_ ?_
  · refine mX_to 1 (k' := 3) (ls' := [some (.ref 67), some (.int a1)]) (st' := [.ref 67]) (h' := h) rfl ?_
    refine mX_ckv (v := .int (gI h 67 5)) (v' := .int (gI h 67 5)) (k' := 4) (ls' := [some (.ref 67), some (.int a1)]) (st' := []) (h' := h) (k_67 L) rfl rfl ?_
    refine mX_to 1 (k' := 12) (ls' := [some (.ref 67), some (.int a1)]) (st' := [.int (gI h 67 5)]) (h' := h) rfl ?_
    exact mX_reti rfl
  · refine mX_to 2 (k' := 7) (ls' := [some (.ref 67), some (.int a1)]) (st' := [.int 1, .int a1]) (h' := h) rfl ?_
    refine mX_br (t := 8) (f := 11) (ls' := [some (.ref 67), some (.int a1)]) (st' := []) (h' := h) rfl ?_ ?_
    · refine mX_to 1 (k' := 9) (ls' := [some (.ref 67), some (.int a1)]) (st' := [.ref 67]) (h' := h) rfl ?_
      refine mX_ckv (v := .int (gI h 67 6)) (v' := .int (gI h 67 6)) (k' := 10) (ls' := [some (.ref 67), some (.int a1)]) (st' := []) (h' := h) (k_67 L) rfl rfl ?_
      refine mX_to 1 (k' := 12) (ls' := [some (.ref 67), some (.int a1)]) (st' := [.int (gI h 67 6)]) (h' := h) rfl ?_
      exact mX_reti rfl
    · refine mX_to 1 (k' := 12) (ls' := [some (.ref 67), some (.int a1)]) (st' := [.int (-1)]) (h' := h) rfl ?_
      exact mX_reti rfl
theorem S_X0_textOf {h : MH} (L : lay h) (d : Nat) (a1 : Int32) : F_X0_textOf (d + 1) a1 h = cI (F_X10_within d a1 0 ((gI h 9 4) - 1) h) (fun x2 h1 => (if x2 = 0 then some (.ref 0, h1) else ck (ib a1 4) (some (.ref (gR h1 23 (ix a1)), h1)))) := by
  refine mE_eq (q := (yX0_textOf, cX0_textOf, 2, (some (.object "BoroughBeam$Text")), KX0_textOf)) (C := KX0_textOf) (ls := [some (.ref 9), some (.int a1)]) rfl rfl rfl rfl ?_
  refine mX_to 3 (k' := 3) (ls' := [some (.ref 9), some (.int a1)]) (st' := [.ref 9, .int 0, .int a1]) (h' := h) rfl ?_
  refine mX_ckv (v := .int (gI h 9 4)) (v' := .int (gI h 9 4)) (k' := 4) (ls' := [some (.ref 9), some (.int a1)]) (st' := [.int 0, .int a1]) (h' := h) (k_9 L) rfl rfl ?_
  refine mX_to 2 (k' := 6) (ls' := [some (.ref 9), some (.int a1)]) (st' := [.int ((gI h 9 4) - 1), .int 0, .int a1]) (h' := h) rfl ?_
  refine mX_cIe (o := F_X10_within d a1 0 ((gI h 9 4) - 1) h) (k' := 7) (ls' := [some (.ref 9), some (.int a1)]) (st' := []) rfl ?_
  intro x2 h1 eh1
  have L1 : lay h1 := lay_call d 11 [.int a1, .int 0, .int ((gI h 9 4) - 1)] h _ h1 rfl eh1 L
  refine mX_br (t := 13) (f := 8) (ls' := [some (.ref 9), some (.int a1)]) (st' := []) (h' := h1) rfl ?_ ?_
  · refine mX_to 1 (k' := 14) (ls' := [some (.ref 9), some (.int a1)]) (st' := [.ref 0]) (h' := h1) rfl ?_
    exact mX_ret rfl
  · refine mX_to 1 (k' := 9) (ls' := [some (.ref 9), some (.int a1)]) (st' := [.ref 9]) (h' := h1) rfl ?_
    refine mX_ckv (v := .ref (gR h1 9 3)) (v' := .ref 23) (k' := 10) (ls' := [some (.ref 9), some (.int a1)]) (st' := []) (h' := h1) (k_9 L1) (congrArg Value.ref (r_9_3 L1)) rfl ?_
    refine mX_to 1 (k' := 11) (ls' := [some (.ref 9), some (.int a1)]) (st' := [.int a1, .ref 23]) (h' := h1) rfl ?_
    refine mX_ckw (v := .ref (gR h1 23 (ix a1))) (v' := .ref (gR h1 23 (ix a1))) (k' := 12) (ls' := [some (.ref 9), some (.int a1)]) (st' := []) (h' := h1) (ckA0 (k_23 L1) (n_23 L1)) rfl rfl fun c3 => ?_
    refine mX_to 1 (k' := 14) (ls' := [some (.ref 9), some (.int a1)]) (st' := [.ref (gR h1 23 (ix a1))]) (h' := h1) rfl ?_
    exact mX_ret rfl
theorem S_X0_rule {h : MH} (L : lay h) (d : Nat) (a1 : Int32) : F_X0_rule (d + 1) a1 h = lt_ (sI h 9 5 a1) fun h2 => cR (F_X0_textOf d a1 h2) (fun x4 h3 => lt_ (sR h3 10 9 x4) fun h6 => some (.int 0, h6)) := by
  refine mE_eq (q := (yX0_rule, cX0_rule, 2, none, KX0_rule)) (C := KX0_rule) (ls := [some (.ref 9), some (.int a1)]) rfl rfl rfl rfl ?_
  refine mX_to 2 (k' := 2) (ls' := [some (.ref 9), some (.int a1)]) (st' := [.int a1, .ref 9]) (h' := h) rfl ?_
  refine mX_ckt (k' := 3) (ls' := [some (.ref 9), some (.int a1)]) (st' := []) (h' := (sI h 9 5 a1)) (k_9 L) rfl ?_
  refine lt_geq2 (X := fun h2 : MH => mX (mE mtab d) KX0_rule 3 [some (.ref 9), some (.int a1)] [] h2) (a := (sI h 9 5 a1)) (a' := (sI h 9 5 a1)) rfl fun h2 eh2 => ?_
  have L2 : lay h2 := eh2 ▸ layI L (by decide)
  refine mX_to 1 (k' := 4) (ls' := [some (.ref 9), some (.int a1)]) (st' := [.ref 9]) (h' := h2) rfl ?_
  refine mX_ckv (v := .ref (gR h2 9 0)) (v' := .ref 10) (k' := 5) (ls' := [some (.ref 9), some (.int a1)]) (st' := []) (h' := h2) (k_9 L2) (congrArg Value.ref (r_9_0 L2)) rfl ?_
  refine mX_to 2 (k' := 7) (ls' := [some (.ref 9), some (.int a1)]) (st' := [.int a1, .ref 9, .ref 10]) (h' := h2) rfl ?_
  refine mX_ckct (m := mcl (mE mtab d 133 [.ref 9, .int a1] h2) 3 8 [some (.ref 9), some (.int a1)] [.ref 10]) (k_9 L2) rfl ?_
  refine mk_cRe (o := F_X0_textOf d a1 h2) ?_
  intro x4 h3 eh3
  have L3 : lay h3 := lay_call d 133 [.ref 9, .int a1] h2 _ h3 rfl eh3 L2
  refine mX_ckt (k' := 9) (ls' := [some (.ref 9), some (.int a1)]) (st' := []) (h' := (sR h3 10 9 x4)) (k_10 L3) rfl ?_
  refine lt_geq2 (X := fun h6 : MH => mX (mE mtab d) KX0_rule 9 [some (.ref 9), some (.int a1)] [] h6) (a := (sR h3 10 9 x4)) (a' := (sR h3 10 9 x4)) rfl fun h6 eh6 => ?_
  have L6 : lay h6 := eh6 ▸ layR L3 (by decide)
  exact mX_ret rfl
theorem S_X10_by {h : MH} (L : lay h) (d : Nat) (a1 : Int32) : F_X10_by (d + 1) a1 h = cI (F_X10_within d a1 (-1) ((gI h 9 4) - 1) h) (fun x2 h1 => (if x2 = 0 then some (.int 0, h1) else cV (F_X0_rule d a1 h1) (fun h3 => some (.int 1, h3)))) := by
  refine mE_eq (q := (yX10_by, cX10_by, 2, (some .boolean), KX10_by)) (C := KX10_by) (ls := [some (.ref 8), some (.int a1)]) rfl rfl rfl rfl ?_
  refine mX_to 3 (k' := 3) (ls' := [some (.ref 8), some (.int a1)]) (st' := [.ref 8, .int (-1), .int a1]) (h' := h) rfl ?_
  refine mX_ckv (v := .ref (gR h 8 0)) (v' := .ref 9) (k' := 4) (ls' := [some (.ref 8), some (.int a1)]) (st' := [.int (-1), .int a1]) (h' := h) (k_8 L) (congrArg Value.ref (r_8_0 L)) rfl ?_
  refine mX_ckv (v := .int (gI h 9 4)) (v' := .int (gI h 9 4)) (k' := 5) (ls' := [some (.ref 8), some (.int a1)]) (st' := [.int (-1), .int a1]) (h' := h) (k_9 L) rfl rfl ?_
  refine mX_to 2 (k' := 7) (ls' := [some (.ref 8), some (.int a1)]) (st' := [.int ((gI h 9 4) - 1), .int (-1), .int a1]) (h' := h) rfl ?_
  refine mX_cIe (o := F_X10_within d a1 (-1) ((gI h 9 4) - 1) h) (k' := 8) (ls' := [some (.ref 8), some (.int a1)]) (st' := []) rfl ?_
  intro x2 h1 eh1
  have L1 : lay h1 := lay_call d 11 [.int a1, .int (-1), .int ((gI h 9 4) - 1)] h _ h1 rfl eh1 L
  refine mX_br (t := 9) (f := 11) (ls' := [some (.ref 8), some (.int a1)]) (st' := []) (h' := h1) rfl ?_ ?_
  · refine mX_to 1 (k' := 10) (ls' := [some (.ref 8), some (.int a1)]) (st' := [.int 0]) (h' := h1) rfl ?_
    exact mX_retb (by decide) rfl
  · refine mX_to 1 (k' := 12) (ls' := [some (.ref 8), some (.int a1)]) (st' := [.ref 8]) (h' := h1) rfl ?_
    refine mX_ckv (v := .ref (gR h1 8 0)) (v' := .ref 9) (k' := 13) (ls' := [some (.ref 8), some (.int a1)]) (st' := []) (h' := h1) (k_8 L1) (congrArg Value.ref (r_8_0 L1)) rfl ?_
    refine mX_to 1 (k' := 14) (ls' := [some (.ref 8), some (.int a1)]) (st' := [.int a1, .ref 9]) (h' := h1) rfl ?_
    refine mX_ckct (m := mcl (mE mtab d 134 [.ref 9, .int a1] h1) 0 15 [some (.ref 8), some (.int a1)] []) (k_9 L1) rfl ?_
    refine mk_cVe (o := F_X0_rule d a1 h1) ?_
    intro wh3 h3 eh3
    have L3 : lay h3 := lay_call d 134 [.ref 9, .int a1] h1 _ h3 rfl eh3 L1
    refine mX_to 1 (k' := 16) (ls' := [some (.ref 8), some (.int a1)]) (st' := [.int 1]) (h' := h3) rfl ?_
    exact mX_retb (by decide) rfl
theorem S_X11_by {h : MH} (L : lay h) (d : Nat) (a1 : Int32) : F_X11_by (d + 1) a1 h = cI (F_X11_isIn d a1 (-1) ((gI h 68 2) - 1) h) (fun x2 h1 => (if x2 = 0 then some (.int 0, h1) else lt_ (sI h1 68 3 a1) fun h4 => some (.int 1, h4))) := by
  refine mE_eq (q := (yX11_by, cX11_by, 2, (some .boolean), KX11_by)) (C := KX11_by) (ls := [some (.ref 67), some (.int a1)]) rfl rfl rfl rfl ?_
  refine mX_to 3 (k' := 3) (ls' := [some (.ref 67), some (.int a1)]) (st' := [.ref 67, .int (-1), .int a1]) (h' := h) rfl ?_
  refine mX_ckv (v := .ref (gR h 67 0)) (v' := .ref 68) (k' := 4) (ls' := [some (.ref 67), some (.int a1)]) (st' := [.int (-1), .int a1]) (h' := h) (k_67 L) (congrArg Value.ref (r_67_0 L)) rfl ?_
  refine mX_to 1 (k' := 5) (ls' := [some (.ref 67), some (.int a1)]) (st' := [.int 2, .ref 68, .int (-1), .int a1]) (h' := h) rfl ?_
  refine mX_ckv (v := .int (gI h 68 (ix (2 : Int32)))) (v' := .int (gI h 68 2)) (k' := 6) (ls' := [some (.ref 67), some (.int a1)]) (st' := [.int (-1), .int a1]) (h' := h) ((ckA1 (k_68 L) (n_68 L)).mpr (ib_lit (n := 2) rfl (by decide) (by decide))) (congrArg (fun j => Value.int (gI h 68 j)) (ix_lit (n := 2) rfl (by decide))) rfl ?_
  refine mX_to 2 (k' := 8) (ls' := [some (.ref 67), some (.int a1)]) (st' := [.int ((gI h 68 2) - 1), .int (-1), .int a1]) (h' := h) rfl ?_
  refine mX_cIe (o := F_X11_isIn d a1 (-1) ((gI h 68 2) - 1) h) (k' := 9) (ls' := [some (.ref 67), some (.int a1)]) (st' := []) rfl ?_
  intro x2 h1 eh1
  have L1 : lay h1 := lay_call d 14 [.int a1, .int (-1), .int ((gI h 68 2) - 1)] h _ h1 rfl eh1 L
  refine mX_br (t := 10) (f := 12) (ls' := [some (.ref 67), some (.int a1)]) (st' := []) (h' := h1) rfl ?_ ?_
  · refine mX_to 1 (k' := 11) (ls' := [some (.ref 67), some (.int a1)]) (st' := [.int 0]) (h' := h1) rfl ?_
    exact mX_retb (by decide) rfl
  · refine mX_to 1 (k' := 13) (ls' := [some (.ref 67), some (.int a1)]) (st' := [.ref 67]) (h' := h1) rfl ?_
    refine mX_ckv (v := .ref (gR h1 67 0)) (v' := .ref 68) (k' := 14) (ls' := [some (.ref 67), some (.int a1)]) (st' := []) (h' := h1) (k_67 L1) (congrArg Value.ref (r_67_0 L1)) rfl ?_
    refine mX_to 2 (k' := 16) (ls' := [some (.ref 67), some (.int a1)]) (st' := [.int a1, .int 3, .ref 68]) (h' := h1) rfl ?_
    refine mX_ckt (k' := 17) (ls' := [some (.ref 67), some (.int a1)]) (st' := []) (h' := (sI h1 68 (ix (3 : Int32)) a1)) ((ckA0 (k_68 L1) (n_68 L1)).mpr (ib_lit (n := 3) rfl (by decide) (by decide))) rfl ?_
    refine lt_geq2 (X := fun h4 : MH => mX (mE mtab d) KX11_by 17 [some (.ref 67), some (.int a1)] [] h4) (a := (sI h1 68 (ix (3 : Int32)) a1)) (a' := (sI h1 68 3 a1)) (congrArg (fun j => sI h1 68 j a1) (ix_lit (n := 3) rfl (by decide))) fun h4 eh4 => ?_
    have L4 : lay h4 := eh4 ▸ layI L1 (by decide)
    refine mX_to 1 (k' := 18) (ls' := [some (.ref 67), some (.int a1)]) (st' := [.int 1]) (h' := h4) rfl ?_
    exact mX_retb (by decide) rfl
theorem S_X6_mark {h : MH} (L : lay h) (d : Nat) : F_X6_mark (d + 1) h = lt_ ((((gI h 17 1) + (gI h 17 2)) - ((gI h 17 1) + (gI h 17 2)) / 31 * 31) * 47) fun v1 => ck (ib v1 1457) (lt_ (sI h 18 (ix v1) (gI h 10 0)) fun h3 => ck (ib (v1 + 1) 1457) (lt_ (sI h3 18 (ix (v1 + 1)) (gI h3 10 5)) fun h5 => ck (ib (v1 + 2) 1457) (lt_ (sI h5 18 (ix (v1 + 2)) (gI h5 10 6)) fun h7 => ck (ib (v1 + 3) 1457) (lt_ (sI h7 18 (ix (v1 + 3)) (gI h7 10 8)) fun h9 => ck (¬ (0 : Int32) < 0 ∧ ¬ (v1 + 4) < 0 ∧ ¬ (4 : Int32) < 0 ∧ ix (0 : Int32) + ix (4 : Int32) ≤ 4 ∧ ix (v1 + 4) + ix (4 : Int32) ≤ 1457) (lt_ (rI h9 18 (va_cpy (gI h9 12) (gI h9 18) (ix (0 : Int32)) (ix (v1 + 4)) (ix (4 : Int32)))) fun h11 => ck (¬ (0 : Int32) < 0 ∧ ¬ ((v1 + 4) + 4) < 0 ∧ ¬ (9 : Int32) < 0 ∧ ix (0 : Int32) + ix (9 : Int32) ≤ 9 ∧ ix ((v1 + 4) + 4) + ix (9 : Int32) ≤ 1457) (lt_ (rI h11 18 (va_cpy (gI h11 14) (gI h11 18) (ix (0 : Int32)) (ix ((v1 + 4) + 4)) (ix (9 : Int32)))) fun h13 => ck (¬ (0 : Int32) < 0 ∧ ¬ (((v1 + 4) + 4) + 9) < 0 ∧ ¬ (30 : Int32) < 0 ∧ ix (0 : Int32) + ix (30 : Int32) ≤ 30 ∧ ix (((v1 + 4) + 4) + 9) + ix (30 : Int32) ≤ 1457) (lt_ (rI h13 18 (va_cpy (gI h13 15) (gI h13 18) (ix (0 : Int32)) (ix (((v1 + 4) + 4) + 9)) (ix (30 : Int32)))) fun h15 => some (.int 0, h15)))))))) := by
  refine mE_eq (q := (yX6_mark, cX6_mark, 3, none, KX6_mark)) (C := KX6_mark) (ls := [some (.ref 17), some (.ref 10), none]) rfl rfl rfl rfl ?_
  refine mX_to 1 (k' := 1) (ls' := [some (.ref 17), some (.ref 10), none]) (st' := [.ref 17]) (h' := h) rfl ?_
  refine mX_ckv (v := .int (gI h 17 1)) (v' := .int (gI h 17 1)) (k' := 2) (ls' := [some (.ref 17), some (.ref 10), none]) (st' := []) (h' := h) (k_17 L) rfl rfl ?_
  refine mX_to 1 (k' := 3) (ls' := [some (.ref 17), some (.ref 10), none]) (st' := [.ref 17, .int (gI h 17 1)]) (h' := h) rfl ?_
  refine mX_ckv (v := .int (gI h 17 2)) (v' := .int (gI h 17 2)) (k' := 4) (ls' := [some (.ref 17), some (.ref 10), none]) (st' := [.int (gI h 17 1)]) (h' := h) (k_17 L) rfl rfl ?_
  refine mX_to 2 (k' := 6) (ls' := [some (.ref 17), some (.ref 10), none]) (st' := [.int 31, .int ((gI h 17 1) + (gI h 17 2))]) (h' := h) rfl ?_
  refine mX_ckt (c := ¬ (31 : Int32) = 0) (k' := 7) (ls' := [some (.ref 17), some (.ref 10), none]) (st' := [.int (((gI h 17 1) + (gI h 17 2)) - ((gI h 17 1) + (gI h 17 2)) / 31 * 31)]) (h' := h) (by decide) rfl ?_
  refine mX_to 2 (k' := 9) (ls' := [some (.ref 17), some (.ref 10), none]) (st' := [.int ((((gI h 17 1) + (gI h 17 2)) - ((gI h 17 1) + (gI h 17 2)) / 31 * 31) * 47)]) (h' := h) rfl ?_
  refine lt_gen (X := fun v1 : Int32 => mX (mE mtab d) KX6_mark 9 [some (.ref 17), some (.ref 10), none] [.int v1] h) fun v1 => ?_
  refine mX_to 2 (k' := 11) (ls' := [some (.ref 17), some (.ref 10), some (.int v1)]) (st' := [.ref 17]) (h' := h) rfl ?_
  refine mX_ckv (v := .ref (gR h 17 0)) (v' := .ref 18) (k' := 12) (ls' := [some (.ref 17), some (.ref 10), some (.int v1)]) (st' := []) (h' := h) (k_17 L) (congrArg Value.ref (r_17_0 L)) rfl ?_
  refine mX_to 2 (k' := 14) (ls' := [some (.ref 17), some (.ref 10), some (.int v1)]) (st' := [.ref 10, .int v1, .ref 18]) (h' := h) rfl ?_
  refine mX_ckv (v := .int (gI h 10 0)) (v' := .int (gI h 10 0)) (k' := 15) (ls' := [some (.ref 17), some (.ref 10), some (.int v1)]) (st' := [.int v1, .ref 18]) (h' := h) (k_10 L) rfl rfl ?_
  refine mX_cki (k' := 16) (ls' := [some (.ref 17), some (.ref 10), some (.int v1)]) (st' := []) (h' := (sI h 18 (ix v1) (gI h 10 0))) (ckA0 (k_18 L) (n_18 L)) rfl fun c2 => ?_
  refine lt_geq2 (X := fun h3 : MH => mX (mE mtab d) KX6_mark 16 [some (.ref 17), some (.ref 10), some (.int v1)] [] h3) (a := (sI h 18 (ix v1) (gI h 10 0))) (a' := (sI h 18 (ix v1) (gI h 10 0))) rfl fun h3 eh3 => ?_
  have L3 : lay h3 := eh3 ▸ layI L (by decide)
  refine mX_to 1 (k' := 17) (ls' := [some (.ref 17), some (.ref 10), some (.int v1)]) (st' := [.ref 17]) (h' := h3) rfl ?_
  refine mX_ckv (v := .ref (gR h3 17 0)) (v' := .ref 18) (k' := 18) (ls' := [some (.ref 17), some (.ref 10), some (.int v1)]) (st' := []) (h' := h3) (k_17 L3) (congrArg Value.ref (r_17_0 L3)) rfl ?_
  refine mX_to 4 (k' := 22) (ls' := [some (.ref 17), some (.ref 10), some (.int v1)]) (st' := [.ref 10, .int (v1 + 1), .ref 18]) (h' := h3) rfl ?_
  refine mX_ckv (v := .int (gI h3 10 5)) (v' := .int (gI h3 10 5)) (k' := 23) (ls' := [some (.ref 17), some (.ref 10), some (.int v1)]) (st' := [.int (v1 + 1), .ref 18]) (h' := h3) (k_10 L3) rfl rfl ?_
  refine mX_cki (k' := 24) (ls' := [some (.ref 17), some (.ref 10), some (.int v1)]) (st' := []) (h' := (sI h3 18 (ix (v1 + 1)) (gI h3 10 5))) (ckA0 (k_18 L3) (n_18 L3)) rfl fun c4 => ?_
  refine lt_geq2 (X := fun h5 : MH => mX (mE mtab d) KX6_mark 24 [some (.ref 17), some (.ref 10), some (.int v1)] [] h5) (a := (sI h3 18 (ix (v1 + 1)) (gI h3 10 5))) (a' := (sI h3 18 (ix (v1 + 1)) (gI h3 10 5))) rfl fun h5 eh5 => ?_
  have L5 : lay h5 := eh5 ▸ layI L3 (by decide)
  refine mX_to 1 (k' := 25) (ls' := [some (.ref 17), some (.ref 10), some (.int v1)]) (st' := [.ref 17]) (h' := h5) rfl ?_
  refine mX_ckv (v := .ref (gR h5 17 0)) (v' := .ref 18) (k' := 26) (ls' := [some (.ref 17), some (.ref 10), some (.int v1)]) (st' := []) (h' := h5) (k_17 L5) (congrArg Value.ref (r_17_0 L5)) rfl ?_
  refine mX_to 4 (k' := 30) (ls' := [some (.ref 17), some (.ref 10), some (.int v1)]) (st' := [.ref 10, .int (v1 + 2), .ref 18]) (h' := h5) rfl ?_
  refine mX_ckv (v := .int (gI h5 10 6)) (v' := .int (gI h5 10 6)) (k' := 31) (ls' := [some (.ref 17), some (.ref 10), some (.int v1)]) (st' := [.int (v1 + 2), .ref 18]) (h' := h5) (k_10 L5) rfl rfl ?_
  refine mX_cki (k' := 32) (ls' := [some (.ref 17), some (.ref 10), some (.int v1)]) (st' := []) (h' := (sI h5 18 (ix (v1 + 2)) (gI h5 10 6))) (ckA0 (k_18 L5) (n_18 L5)) rfl fun c6 => ?_
  refine lt_geq2 (X := fun h7 : MH => mX (mE mtab d) KX6_mark 32 [some (.ref 17), some (.ref 10), some (.int v1)] [] h7) (a := (sI h5 18 (ix (v1 + 2)) (gI h5 10 6))) (a' := (sI h5 18 (ix (v1 + 2)) (gI h5 10 6))) rfl fun h7 eh7 => ?_
  have L7 : lay h7 := eh7 ▸ layI L5 (by decide)
  refine mX_to 1 (k' := 33) (ls' := [some (.ref 17), some (.ref 10), some (.int v1)]) (st' := [.ref 17]) (h' := h7) rfl ?_
  refine mX_ckv (v := .ref (gR h7 17 0)) (v' := .ref 18) (k' := 34) (ls' := [some (.ref 17), some (.ref 10), some (.int v1)]) (st' := []) (h' := h7) (k_17 L7) (congrArg Value.ref (r_17_0 L7)) rfl ?_
  refine mX_to 4 (k' := 38) (ls' := [some (.ref 17), some (.ref 10), some (.int v1)]) (st' := [.ref 10, .int (v1 + 3), .ref 18]) (h' := h7) rfl ?_
  refine mX_ckv (v := .int (gI h7 10 8)) (v' := .int (gI h7 10 8)) (k' := 39) (ls' := [some (.ref 17), some (.ref 10), some (.int v1)]) (st' := [.int (v1 + 3), .ref 18]) (h' := h7) (k_10 L7) rfl rfl ?_
  refine mX_cki (k' := 40) (ls' := [some (.ref 17), some (.ref 10), some (.int v1)]) (st' := []) (h' := (sI h7 18 (ix (v1 + 3)) (gI h7 10 8))) (ckA0 (k_18 L7) (n_18 L7)) rfl fun c8 => ?_
  refine lt_geq2 (X := fun h9 : MH => mX (mE mtab d) KX6_mark 40 [some (.ref 17), some (.ref 10), some (.int v1)] [] h9) (a := (sI h7 18 (ix (v1 + 3)) (gI h7 10 8))) (a' := (sI h7 18 (ix (v1 + 3)) (gI h7 10 8))) rfl fun h9 eh9 => ?_
  have L9 : lay h9 := eh9 ▸ layI L7 (by decide)
  refine mX_to 1 (k' := 41) (ls' := [some (.ref 17), some (.ref 10), some (.int v1)]) (st' := [.ref 10]) (h' := h9) rfl ?_
  refine mX_ckv (v := .ref (gR h9 10 2)) (v' := .ref 12) (k' := 42) (ls' := [some (.ref 17), some (.ref 10), some (.int v1)]) (st' := []) (h' := h9) (k_10 L9) (congrArg Value.ref (r_10_2 L9)) rfl ?_
  refine mX_to 2 (k' := 44) (ls' := [some (.ref 17), some (.ref 10), some (.int v1)]) (st' := [.ref 17, .int 0, .ref 12]) (h' := h9) rfl ?_
  refine mX_ckv (v := .ref (gR h9 17 0)) (v' := .ref 18) (k' := 45) (ls' := [some (.ref 17), some (.ref 10), some (.int v1)]) (st' := [.int 0, .ref 12]) (h' := h9) (k_17 L9) (congrArg Value.ref (r_17_0 L9)) rfl ?_
  refine mX_to 4 (k' := 49) (ls' := [some (.ref 17), some (.ref 10), some (.int v1)]) (st' := [.int 4, .int (v1 + 4), .ref 18, .int 0, .ref 12]) (h' := h9) rfl ?_
  refine mX_cki (k' := 50) (ls' := [some (.ref 17), some (.ref 10), some (.int v1)]) (st' := []) (h' := (rI h9 18 (va_cpy (gI h9 12) (gI h9 18) (ix (0 : Int32)) (ix (v1 + 4)) (ix (4 : Int32))))) (ckD (k_12 L9) (k_18 L9) (n_12 L9) (n_18 L9)) rfl fun c10 => ?_
  refine lt_geq2 (X := fun h11 : MH => mX (mE mtab d) KX6_mark 50 [some (.ref 17), some (.ref 10), some (.int v1)] [] h11) (a := (rI h9 18 (va_cpy (gI h9 12) (gI h9 18) (ix (0 : Int32)) (ix (v1 + 4)) (ix (4 : Int32))))) (a' := (rI h9 18 (va_cpy (gI h9 12) (gI h9 18) (ix (0 : Int32)) (ix (v1 + 4)) (ix (4 : Int32))))) rfl fun h11 eh11 => ?_
  have L11 : lay h11 := eh11 ▸ lay_rI L9 (by decide)
  refine mX_to 1 (k' := 51) (ls' := [some (.ref 17), some (.ref 10), some (.int v1)]) (st' := [.ref 10]) (h' := h11) rfl ?_
  refine mX_ckv (v := .ref (gR h11 10 4)) (v' := .ref 14) (k' := 52) (ls' := [some (.ref 17), some (.ref 10), some (.int v1)]) (st' := []) (h' := h11) (k_10 L11) (congrArg Value.ref (r_10_4 L11)) rfl ?_
  refine mX_to 2 (k' := 54) (ls' := [some (.ref 17), some (.ref 10), some (.int v1)]) (st' := [.ref 17, .int 0, .ref 14]) (h' := h11) rfl ?_
  refine mX_ckv (v := .ref (gR h11 17 0)) (v' := .ref 18) (k' := 55) (ls' := [some (.ref 17), some (.ref 10), some (.int v1)]) (st' := [.int 0, .ref 14]) (h' := h11) (k_17 L11) (congrArg Value.ref (r_17_0 L11)) rfl ?_
  refine mX_to 6 (k' := 61) (ls' := [some (.ref 17), some (.ref 10), some (.int v1)]) (st' := [.int 9, .int ((v1 + 4) + 4), .ref 18, .int 0, .ref 14]) (h' := h11) rfl ?_
  refine mX_cki (k' := 62) (ls' := [some (.ref 17), some (.ref 10), some (.int v1)]) (st' := []) (h' := (rI h11 18 (va_cpy (gI h11 14) (gI h11 18) (ix (0 : Int32)) (ix ((v1 + 4) + 4)) (ix (9 : Int32))))) (ckD (k_14 L11) (k_18 L11) (n_14 L11) (n_18 L11)) rfl fun c12 => ?_
  refine lt_geq2 (X := fun h13 : MH => mX (mE mtab d) KX6_mark 62 [some (.ref 17), some (.ref 10), some (.int v1)] [] h13) (a := (rI h11 18 (va_cpy (gI h11 14) (gI h11 18) (ix (0 : Int32)) (ix ((v1 + 4) + 4)) (ix (9 : Int32))))) (a' := (rI h11 18 (va_cpy (gI h11 14) (gI h11 18) (ix (0 : Int32)) (ix ((v1 + 4) + 4)) (ix (9 : Int32))))) rfl fun h13 eh13 => ?_
  have L13 : lay h13 := eh13 ▸ lay_rI L11 (by decide)
  refine mX_to 1 (k' := 63) (ls' := [some (.ref 17), some (.ref 10), some (.int v1)]) (st' := [.ref 10]) (h' := h13) rfl ?_
  refine mX_ckv (v := .ref (gR h13 10 7)) (v' := .ref 15) (k' := 64) (ls' := [some (.ref 17), some (.ref 10), some (.int v1)]) (st' := []) (h' := h13) (k_10 L13) (congrArg Value.ref (r_10_7 L13)) rfl ?_
  refine mX_to 2 (k' := 66) (ls' := [some (.ref 17), some (.ref 10), some (.int v1)]) (st' := [.ref 17, .int 0, .ref 15]) (h' := h13) rfl ?_
  refine mX_ckv (v := .ref (gR h13 17 0)) (v' := .ref 18) (k' := 67) (ls' := [some (.ref 17), some (.ref 10), some (.int v1)]) (st' := [.int 0, .ref 15]) (h' := h13) (k_17 L13) (congrArg Value.ref (r_17_0 L13)) rfl ?_
  refine mX_to 8 (k' := 75) (ls' := [some (.ref 17), some (.ref 10), some (.int v1)]) (st' := [.int 30, .int (((v1 + 4) + 4) + 9), .ref 18, .int 0, .ref 15]) (h' := h13) rfl ?_
  refine mX_cki (k' := 76) (ls' := [some (.ref 17), some (.ref 10), some (.int v1)]) (st' := []) (h' := (rI h13 18 (va_cpy (gI h13 15) (gI h13 18) (ix (0 : Int32)) (ix (((v1 + 4) + 4) + 9)) (ix (30 : Int32))))) (ckD (k_15 L13) (k_18 L13) (n_15 L13) (n_18 L13)) rfl fun c14 => ?_
  refine lt_geq2 (X := fun h15 : MH => mX (mE mtab d) KX6_mark 76 [some (.ref 17), some (.ref 10), some (.int v1)] [] h15) (a := (rI h13 18 (va_cpy (gI h13 15) (gI h13 18) (ix (0 : Int32)) (ix (((v1 + 4) + 4) + 9)) (ix (30 : Int32))))) (a' := (rI h13 18 (va_cpy (gI h13 15) (gI h13 18) (ix (0 : Int32)) (ix (((v1 + 4) + 4) + 9)) (ix (30 : Int32))))) rfl fun h15 eh15 => ?_
  have L15 : lay h15 := eh15 ▸ lay_rI L13 (by decide)
  exact mX_ret rfl
theorem S_X9_shift_15 {h : MH} (L : lay h) (d : Nat) (q : Nat) (T : tAt q) (l1 : Int32) (l2 : Int32) (s0 : Int32) (s1 : Int32) : G_X9_shift_15 d q l1 l2 s0 s1 h = cI (F_X10_within d (s1 + s0) 0 8 h) (fun x5 h4 => (if x5 = 0 then some (.int 0, h4) else ck (ib l1 4) (lt_ (sI h4 (q + 2) (ix l1) (s1 + s0)) fun h7 => some (.int 1, h7)))) := by
  refine mX_to 5 (k' := 20) (ls' := [some (.ref q), some (.int l1), some (.int l2), some (.int (s1 + s0))]) (st' := [.int 8, .int 0, .int (s1 + s0)]) (h' := h) rfl ?_
  refine mX_cIe (o := F_X10_within d (s1 + s0) 0 8 h) (k' := 21) (ls' := [some (.ref q), some (.int l1), some (.int l2), some (.int (s1 + s0))]) (st' := []) rfl ?_
  intro x5 h4 eh4
  have L4 : lay h4 := lay_call d 11 [.int (s1 + s0), .int 0, .int 8] h _ h4 rfl eh4 L
  refine mX_br (t := 22) (f := 24) (ls' := [some (.ref q), some (.int l1), some (.int l2), some (.int (s1 + s0))]) (st' := []) (h' := h4) rfl ?_ ?_
  · refine mX_to 1 (k' := 23) (ls' := [some (.ref q), some (.int l1), some (.int l2), some (.int (s1 + s0))]) (st' := [.int 0]) (h' := h4) rfl ?_
    exact mX_retb (by decide) rfl
  · refine mX_to 1 (k' := 25) (ls' := [some (.ref q), some (.int l1), some (.int l2), some (.int (s1 + s0))]) (st' := [.ref q]) (h' := h4) rfl ?_
    refine mX_ckv (v := .ref (gR h4 q 2)) (v' := .ref (q + 2)) (k' := 26) (ls' := [some (.ref q), some (.int l1), some (.int l2), some (.int (s1 + s0))]) (st' := []) (h' := h4) (kT0 L4 T) (congrArg Value.ref (rT2 L4 T)) rfl ?_
    refine mX_to 2 (k' := 28) (ls' := [some (.ref q), some (.int l1), some (.int l2), some (.int (s1 + s0))]) (st' := [.int (s1 + s0), .int l1, .ref (q + 2)]) (h' := h4) rfl ?_
    refine mX_cki (k' := 29) (ls' := [some (.ref q), some (.int l1), some (.int l2), some (.int (s1 + s0))]) (st' := []) (h' := (sI h4 (q + 2) (ix l1) (s1 + s0))) (ckA0 (kT2 L4 T) (nT2 L4 T)) rfl fun c6 => ?_
    refine lt_geq2 (X := fun h7 : MH => mX (mE mtab d) KX9_shift 29 [some (.ref q), some (.int l1), some (.int l2), some (.int (s1 + s0))] [] h7) (a := (sI h4 (q + 2) (ix l1) (s1 + s0))) (a' := (sI h4 (q + 2) (ix l1) (s1 + s0))) rfl fun h7 eh7 => ?_
    have L7 : lay h7 := eh7 ▸ layI L4 (neT2 T)
    refine mX_to 1 (k' := 30) (ls' := [some (.ref q), some (.int l1), some (.int l2), some (.int (s1 + s0))]) (st' := [.int 1]) (h' := h7) rfl ?_
    exact mX_retb (by decide) rfl
theorem S_X9_shift {h : MH} (L : lay h) (d : Nat) (q : Nat) (a1 : Int32) (a2 : Int32) (T : tAt q) : F_X9_shift (d + 1) q a1 a2 h = cI (F_X9_has d q a1 h) (fun x2 h1 => (if x2 = 0 then some (.int 0, h1) else ck (ib a1 4) ((if a2 = 0 then G_X9_shift_15 d q a1 a2 (-1) (gI h1 (q + 2) (ix a1)) h1 else G_X9_shift_15 d q a1 a2 1 (gI h1 (q + 2) (ix a1)) h1)))) := by
  refine mE_eq (q := (yX9_shift, cX9_shift, 4, (some .boolean), KX9_shift)) (C := KX9_shift) (ls := [some (.ref q), some (.int a1), some (.int a2), none]) rfl rfl rfl rfl ?_
  refine mX_to 2 (k' := 2) (ls' := [some (.ref q), some (.int a1), some (.int a2), none]) (st' := [.int a1, .ref q]) (h' := h) rfl ?_
  refine mX_ckct (m := mcl (mE mtab d 17 [.ref q, .int a1] h) 1 3 [some (.ref q), some (.int a1), some (.int a2), none] []) (kT0 L T) rfl ?_
  refine mk_cIe (o := F_X9_has d q a1 h) ?_
  intro x2 h1 eh1
  have L1 : lay h1 := lay_call d 17 [.ref q, .int a1] h _ h1 rfl eh1 L
  refine mX_br (t := 4) (f := 6) (ls' := [some (.ref q), some (.int a1), some (.int a2), none]) (st' := []) (h' := h1) rfl ?_ ?_
  · refine mX_to 1 (k' := 5) (ls' := [some (.ref q), some (.int a1), some (.int a2), none]) (st' := [.int 0]) (h' := h1) rfl ?_
    exact mX_retb (by decide) rfl
  · refine mX_to 1 (k' := 7) (ls' := [some (.ref q), some (.int a1), some (.int a2), none]) (st' := [.ref q]) (h' := h1) rfl ?_
    refine mX_ckv (v := .ref (gR h1 q 2)) (v' := .ref (q + 2)) (k' := 8) (ls' := [some (.ref q), some (.int a1), some (.int a2), none]) (st' := []) (h' := h1) (kT0 L1 T) (congrArg Value.ref (rT2 L1 T)) rfl ?_
    refine mX_to 1 (k' := 9) (ls' := [some (.ref q), some (.int a1), some (.int a2), none]) (st' := [.int a1, .ref (q + 2)]) (h' := h1) rfl ?_
    refine mX_ckw (v := .int (gI h1 (q + 2) (ix a1))) (v' := .int (gI h1 (q + 2) (ix a1))) (k' := 10) (ls' := [some (.ref q), some (.int a1), some (.int a2), none]) (st' := []) (h' := h1) (ckA1 (kT2 L1 T) (nT2 L1 T)) rfl rfl fun c3 => ?_
    refine mX_to 1 (k' := 11) (ls' := [some (.ref q), some (.int a1), some (.int a2), none]) (st' := [.int a2, .int (gI h1 (q + 2) (ix a1))]) (h' := h1) rfl ?_
    refine mX_br (t := 14) (f := 12) (ls' := [some (.ref q), some (.int a1), some (.int a2), none]) (st' := [.int (gI h1 (q + 2) (ix a1))]) (h' := h1) rfl ?_ ?_
    · refine mX_to 1 (k' := 15) (ls' := [some (.ref q), some (.int a1), some (.int a2), none]) (st' := [.int (-1), .int (gI h1 (q + 2) (ix a1))]) (h' := h1) rfl ?_
      rfl
    · refine mX_to 2 (k' := 15) (ls' := [some (.ref q), some (.int a1), some (.int a2), none]) (st' := [.int 1, .int (gI h1 (q + 2) (ix a1))]) (h' := h1) rfl ?_
      rfl
theorem S_X9_tipNow_4 {h : MH} (L : lay h) (d : Nat) (q : Nat) (T : tAt q) (l1 : Int32) (l2 : Int32) : G_X9_tipNow_4 d q l1 l2 h = (if l2 < (gI h q 0) then ck (ib l2 4) (ck (ib l2 4) (lt_ (l1 + ((gI h (q + 1) (ix l2)) * ((gI h (q + 2) (ix l2)) - 4))) fun v1 => G_X9_tipNow_4 d q v1 (l2 + 1) h)) else G_X9_tipNow_26 d q l1 0 h) := by
  refine mX_to 2 (k' := 6) (ls' := [some (.ref q), some (.int l1), some (.int l2)]) (st' := [.ref q, .int l2]) (h' := h) rfl ?_
  refine mX_ckv (v := .int (gI h q 0)) (v' := .int (gI h q 0)) (k' := 7) (ls' := [some (.ref q), some (.int l1), some (.int l2)]) (st' := [.int l2]) (h' := h) (kT0 L T) rfl rfl ?_
  refine mX_br (t := 8) (f := 24) (ls' := [some (.ref q), some (.int l1), some (.int l2)]) (st' := []) (h' := h) rfl ?_ ?_
  · refine mX_to 2 (k' := 10) (ls' := [some (.ref q), some (.int l1), some (.int l2)]) (st' := [.ref q, .int l1]) (h' := h) rfl ?_
    refine mX_ckv (v := .ref (gR h q 1)) (v' := .ref (q + 1)) (k' := 11) (ls' := [some (.ref q), some (.int l1), some (.int l2)]) (st' := [.int l1]) (h' := h) (kT0 L T) (congrArg Value.ref (rT1 L T)) rfl ?_
    refine mX_to 1 (k' := 12) (ls' := [some (.ref q), some (.int l1), some (.int l2)]) (st' := [.int l2, .ref (q + 1), .int l1]) (h' := h) rfl ?_
    refine mX_ckw (v := .int (gI h (q + 1) (ix l2))) (v' := .int (gI h (q + 1) (ix l2))) (k' := 13) (ls' := [some (.ref q), some (.int l1), some (.int l2)]) (st' := [.int l1]) (h' := h) (ckA1 (kT1 L T) (nT1 L T)) rfl rfl fun c3 => ?_
    refine mX_to 1 (k' := 14) (ls' := [some (.ref q), some (.int l1), some (.int l2)]) (st' := [.ref q, .int (gI h (q + 1) (ix l2)), .int l1]) (h' := h) rfl ?_
    refine mX_ckv (v := .ref (gR h q 2)) (v' := .ref (q + 2)) (k' := 15) (ls' := [some (.ref q), some (.int l1), some (.int l2)]) (st' := [.int (gI h (q + 1) (ix l2)), .int l1]) (h' := h) (kT0 L T) (congrArg Value.ref (rT2 L T)) rfl ?_
    refine mX_to 1 (k' := 16) (ls' := [some (.ref q), some (.int l1), some (.int l2)]) (st' := [.int l2, .ref (q + 2), .int (gI h (q + 1) (ix l2)), .int l1]) (h' := h) rfl ?_
    refine mX_ckw (v := .int (gI h (q + 2) (ix l2))) (v' := .int (gI h (q + 2) (ix l2))) (k' := 17) (ls' := [some (.ref q), some (.int l1), some (.int l2)]) (st' := [.int (gI h (q + 1) (ix l2)), .int l1]) (h' := h) (ckA1 (kT2 L T) (nT2 L T)) rfl rfl fun c2 => ?_
    refine mX_to 4 (k' := 21) (ls' := [some (.ref q), some (.int l1), some (.int l2)]) (st' := [.int (l1 + ((gI h (q + 1) (ix l2)) * ((gI h (q + 2) (ix l2)) - 4)))]) (h' := h) rfl ?_
    refine lt_gen (X := fun v1 : Int32 => mX (mE mtab d) KX9_tipNow 21 [some (.ref q), some (.int l1), some (.int l2)] [.int v1] h) fun v1 => ?_
    refine mX_to 3 (k' := 4) (ls' := [some (.ref q), some (.int v1), some (.int (l2 + 1))]) (st' := []) (h' := h) rfl ?_
    rfl
  · refine mX_to 2 (k' := 26) (ls' := [some (.ref q), some (.int l1), some (.int 0)]) (st' := []) (h' := h) rfl ?_
    rfl
theorem S_X9_tipNow_26 {h : MH} (L : lay h) (d : Nat) (q : Nat) (T : tAt q) (l1 : Int32) (l2 : Int32) : G_X9_tipNow_26 d q l1 l2 h = (if l2 < 9 then ck (ib l2 9) (lt_ (l1 + ((gI h (q + 4) (ix l2)) * (l2 - 4))) fun v4 => G_X9_tipNow_26 d q v4 (l2 + 1) h) else some (.int l1, h)) := by
  refine mX_to 2 (k' := 28) (ls' := [some (.ref q), some (.int l1), some (.int l2)]) (st' := [.int 9, .int l2]) (h' := h) rfl ?_
  refine mX_br (t := 29) (f := 42) (ls' := [some (.ref q), some (.int l1), some (.int l2)]) (st' := []) (h' := h) rfl ?_ ?_
  · refine mX_to 2 (k' := 31) (ls' := [some (.ref q), some (.int l1), some (.int l2)]) (st' := [.ref q, .int l1]) (h' := h) rfl ?_
    refine mX_ckv (v := .ref (gR h q 4)) (v' := .ref (q + 4)) (k' := 32) (ls' := [some (.ref q), some (.int l1), some (.int l2)]) (st' := [.int l1]) (h' := h) (kT0 L T) (congrArg Value.ref (rT4 L T)) rfl ?_
    refine mX_to 1 (k' := 33) (ls' := [some (.ref q), some (.int l1), some (.int l2)]) (st' := [.int l2, .ref (q + 4), .int l1]) (h' := h) rfl ?_
    refine mX_ckw (v := .int (gI h (q + 4) (ix l2))) (v' := .int (gI h (q + 4) (ix l2))) (k' := 34) (ls' := [some (.ref q), some (.int l1), some (.int l2)]) (st' := [.int l1]) (h' := h) (ckA1 (kT4 L T) (nT4 L T)) rfl rfl fun c5 => ?_
    refine mX_to 5 (k' := 39) (ls' := [some (.ref q), some (.int l1), some (.int l2)]) (st' := [.int (l1 + ((gI h (q + 4) (ix l2)) * (l2 - 4)))]) (h' := h) rfl ?_
    refine lt_gen (X := fun v4 : Int32 => mX (mE mtab d) KX9_tipNow 39 [some (.ref q), some (.int l1), some (.int l2)] [.int v4] h) fun v4 => ?_
    refine mX_to 3 (k' := 26) (ls' := [some (.ref q), some (.int v4), some (.int (l2 + 1))]) (st' := []) (h' := h) rfl ?_
    rfl
  · refine mX_to 1 (k' := 43) (ls' := [some (.ref q), some (.int l1), some (.int l2)]) (st' := [.int l1]) (h' := h) rfl ?_
    exact mX_reti rfl
theorem S_X9_tipNow {h : MH} (L : lay h) (d : Nat) (q : Nat) (T : tAt q) : F_X9_tipNow (d + 1) q h = G_X9_tipNow_4 d q 0 0 h := by
  refine mE_eq (q := (yX9_tipNow, cX9_tipNow, 3, (some .int), KX9_tipNow)) (C := KX9_tipNow) (ls := [some (.ref q), none, none]) rfl rfl rfl rfl ?_
  refine mX_to 4 (k' := 4) (ls' := [some (.ref q), some (.int 0), some (.int 0)]) (st' := []) (h' := h) rfl ?_
  rfl
